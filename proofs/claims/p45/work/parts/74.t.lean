set_option maxRecDepth 20000 in
set_option maxHeartbeats 4000000 in
theorem t_X5_areKin (o : OO) (x1 : Int) (x2 : Int) (hB_o : BoxC o) (k0 : 0 ≤ x1 ∧ x1 ≤ 39) (k1 : 0 ≤ x2 ∧ x2 ≤ 39) : T (s_X5_areKin o x1 x2) (fun v => (0 ≤ v ∧ v ≤ 1)) := by
  unfold s_X5_areKin
  refine T_qIn ⟨by omega, by omega⟩ ?_
  refine T_qNm (fun n2 e_n2 => ?_)
  have b_n2 : 0 ≤ n2 ∧ n2 ≤ 9 := by rw [e_n2]; exact bC_27 hB_o _
  refine T_qIn ⟨by omega, by omega⟩ ?_
  refine T_qNm (fun n4 e_n4 => ?_)
  have b_n4 : 0 ≤ n4 ∧ n4 ≤ 9 := by rw [e_n4]; exact bC_27 hB_o _
  refine T_qEq ⟨by omega, by omega⟩ ⟨by omega, by omega⟩ (fun h1 => ?_) (fun h1 => ?_)
  ·
    unfold b_X5_areKin_20
    refine T_qZ (Or.inr rfl) ?_
    refine T_some ?_
    show (0 ≤ 1 ∧ 1 ≤ 1)
    exact (by omega)
  ·
    unfold b_X5_areKin_20
    refine T_qZ (Or.inl rfl) ?_
    refine T_some ?_
    show (0 ≤ 0 ∧ 0 ≤ 1)
    exact (by omega)
set_option maxRecDepth 20000 in
set_option maxHeartbeats 4000000 in
theorem tl_X2_kinHeard_3 (o : OO) (x2 : Int) (x3 : Int) (i_x4 : Int) (hB_o : BoxC o) (k0 : 0 ≤ x2 ∧ x2 ≤ 39) (k1 : inR x3) (v0 : 0 ≤ i_x4 ∧ i_x4 ≤ o.1 46 7) : T (loopW (fun s => l_X2_kinHeard_3 o x2 x3 s) i_x4) (Sum.elim (fun _ => True) (fun _ => True)) := by
  refine T_loop (fun s => (0 ≤ s ∧ s ≤ o.1 46 7)) (fun s => (o.1 46 7 - s).toNat) (by exact v0) (fun s hs => ?_)
  obtain ⟨x4, q_x4⟩ : ∃ q, q = s := ⟨_, rfl⟩
  subst q_x4
  replace hs : (0 ≤ x4 ∧ x4 ≤ o.1 46 7) := hs
  have w0 := hs
  have g46_7_o := bC_46_7 hB_o
  show T (l_X2_kinHeard_3 o x2 x3 x4) _
  unfold l_X2_kinHeard_3
  refine T_qLt ⟨by omega, by omega⟩ ⟨by omega, by omega⟩ (fun h1 => ?_) (fun h1 => ?_)
  ·
    refine T_qIn ⟨by omega, by omega⟩ ?_
    refine T_qNm (fun n2 e_n2 => ?_)
    have b_n2 : 0 ≤ n2 ∧ n2 ≤ 23 := by rw [e_n2]; exact bC_51 hB_o _
    refine T_qEq ⟨by omega, by omega⟩ ⟨by omega, by omega⟩ (fun h2 => ?_) (fun h2 => ?_)
    ·
      refine T_qIn ⟨by omega, by omega⟩ ?_
      refine T_qNm (fun n4 e_n4 => ?_)
      have b_n4 : 0 ≤ n4 ∧ n4 ≤ 999 := by rw [e_n4]; exact bC_52 hB_o _
      refine T_qIn ⟨by omega, by omega⟩ ?_
      refine T_qNm (fun n6 e_n6 => ?_)
      have b_n6 : 0 ≤ n6 ∧ n6 ≤ 999 := by rw [e_n6]; exact bC_49 hB_o _
      refine T_qLt ⟨by omega, by omega⟩ ⟨by omega, by omega⟩ (fun h3 => ?_) (fun h3 => ?_)
      ·
        unfold b_X2_kinHeard_64
        refine T_some ?_
        show ((0 ≤ (x4 + 1) ∧ (x4 + 1) ≤ o.1 46 7)) ∧ (o.1 46 7 - (x4 + 1)).toNat < (o.1 46 7 - x4).toNat
        exact ⟨(by omega), by omega⟩
      ·
        refine T_qIn ⟨by omega, by omega⟩ ?_
        refine T_qNm (fun n8 e_n8 => ?_)
        have b_n8 : 0 ≤ n8 ∧ n8 ≤ 39 := by rw [e_n8]; exact bC_50 hB_o _
        refine T_qIn ⟨by omega, by omega⟩ ?_
        refine T_qNm (fun n10 e_n10 => ?_)
        have b_n10 : 0 ≤ n10 ∧ n10 ≤ 39 := by rw [e_n10]; exact bC_48 hB_o _
        refine T_qB (t_X5_areKin o n8 n10 hB_o (by omega) (by omega)) (fun r11 hc_r11 hp4 => ?_)
        replace hp4 : (0 ≤ r11 ∧ r11 ≤ 1) := hp4
        refine T_qEq ⟨by omega, by omega⟩ ⟨by decide, by decide⟩ (fun h5 => ?_) (fun h5 => ?_)
        ·
          unfold b_X2_kinHeard_64
          refine T_some ?_
          show ((0 ≤ (x4 + 1) ∧ (x4 + 1) ≤ o.1 46 7)) ∧ (o.1 46 7 - (x4 + 1)).toNat < (o.1 46 7 - x4).toNat
          exact ⟨(by omega), by omega⟩
        ·
          refine T_some ?_
          show True
          exact trivial
    ·
      unfold b_X2_kinHeard_64
      refine T_some ?_
      show ((0 ≤ (x4 + 1) ∧ (x4 + 1) ≤ o.1 46 7)) ∧ (o.1 46 7 - (x4 + 1)).toNat < (o.1 46 7 - x4).toNat
      exact ⟨(by omega), by omega⟩
  ·
    refine T_some ?_
    show True
    exact trivial
set_option maxRecDepth 20000 in
set_option maxHeartbeats 4000000 in
theorem t_X2_kinHeard (o : OO) (x2 : Int) (x3 : Int) (hB_o : BoxC o) (k0 : 0 ≤ x2 ∧ x2 ≤ 39) (k1 : inR x3) : T (s_X2_kinHeard o x2 x3) (fun v => (0 ≤ v ∧ v ≤ 1)) := by
  have g46_7_o := bC_46_7 hB_o
  unfold s_X2_kinHeard
  unfold e_X2_kinHeard_3
  refine T_qB (tl_X2_kinHeard_3 o x2 x3 0 hB_o (by omega) (by omega) (by omega)) (fun r6 hc_r6 hp7 => ?_)
  rcases r6 with r6 | r6
  ·
    show T (b_X2_kinHeard_62 o) _
    unfold b_X2_kinHeard_62
    refine T_qZ (Or.inr rfl) ?_
    refine T_some ?_
    show (0 ≤ 1 ∧ 1 ≤ 1)
    exact (by omega)
  ·
    show T (b_X2_kinHeard_70 o) _
    unfold b_X2_kinHeard_70
    refine T_qZ (Or.inl rfl) ?_
    refine T_some ?_
    show (0 ≤ 0 ∧ 0 ≤ 1)
    exact (by omega)
set_option maxRecDepth 20000 in
set_option maxHeartbeats 4000000 in
theorem tl_X11_early_38 (o : OO) (x1 : Int) (i_x2 : Int) (i_x3 : Int) (i_x4 : Int) (hB_o : BoxC o) (k0 : inR x1) (k1 : 0 ≤ x1 ∧ x1 ≤ 23) (v0 : 0 ≤ i_x2 ∧ i_x2 ≤ i_x4) (v1 : 0 ≤ i_x3 ∧ i_x3 ≤ i_x4) (v2 : 0 ≤ i_x4 ∧ i_x4 ≤ o.1 46 6) : T (loopW (fun s => l_X11_early_38 o x1 s.1 s.2.1 s.2.2) (i_x2, i_x3, i_x4)) (fun r => (0 ≤ r.1 ∧ r.1 ≤ o.1 46 6) ∧ (0 ≤ r.2 ∧ r.2 ≤ o.1 46 6)) := by
  refine T_loop (fun s => (0 ≤ s.1 ∧ s.1 ≤ s.2.2) ∧ (0 ≤ s.2.1 ∧ s.2.1 ≤ s.2.2) ∧ (0 ≤ s.2.2 ∧ s.2.2 ≤ o.1 46 6)) (fun s => (o.1 46 6 - s.2.2).toNat) (by exact ⟨v0, v1, v2⟩) (fun s hs => ?_)
  obtain ⟨x2, x3, x4⟩ := s
  replace hs : (0 ≤ x2 ∧ x2 ≤ x4) ∧ (0 ≤ x3 ∧ x3 ≤ x4) ∧ (0 ≤ x4 ∧ x4 ≤ o.1 46 6) := hs
  obtain ⟨w0, w1, w2⟩ := hs
  have g32_13_o := bC_32_13 hB_o
  have g46_6_o := bC_46_6 hB_o
  show T (l_X11_early_38 o x1 x2 x3 x4) _
  unfold l_X11_early_38
  refine T_qB (t_X2_buys o hB_o) (fun r1 hc_r1 hp1 => ?_)
  replace hp1 : (r1 = o.1 46 6) := hp1
  refine T_qLt ⟨by omega, by omega⟩ ⟨by omega, by omega⟩ (fun h2 => ?_) (fun h2 => ?_)
  ·
    refine T_qB (t_X11_isEarly o x4 x1 hB_o (by omega) (by omega)) (fun r3 hc_r3 hp3 => ?_)
    replace hp3 : (0 ≤ r3 ∧ r3 ≤ 1) := hp3
    refine T_qEq ⟨by omega, by omega⟩ ⟨by decide, by decide⟩ (fun h4 => ?_) (fun h4 => ?_)
    ·
      unfold b_X11_early_102
      refine T_some ?_
      show ((0 ≤ x2 ∧ x2 ≤ (x4 + 1)) ∧ (0 ≤ x3 ∧ x3 ≤ (x4 + 1)) ∧ (0 ≤ (x4 + 1) ∧ (x4 + 1) ≤ o.1 46 6)) ∧ (o.1 46 6 - (x4 + 1)).toNat < (o.1 46 6 - x4).toNat
      exact ⟨⟨(by omega), (by omega), (by omega)⟩, by omega⟩
    ·
      refine T_qB (t_X2_buyerHeard o x4 x1 hB_o (by omega) (by omega)) (fun r5 hc_r5 hp5 => ?_)
      replace hp5 : (0 ≤ r5 ∧ r5 ≤ 1) := hp5
      refine T_qEq ⟨by omega, by omega⟩ ⟨by decide, by decide⟩ (fun h6 => ?_) (fun h6 => ?_)
      ·
        refine T_qB (t_X2_kinHeard o x4 x1 hB_o (by omega) (by omega)) (fun r7 hc_r7 hp7 => ?_)
        replace hp7 : (0 ≤ r7 ∧ r7 ≤ 1) := hp7
        refine T_qEq ⟨by omega, by omega⟩ ⟨by decide, by decide⟩ (fun h8 => ?_) (fun h8 => ?_)
        ·
          unfold b_X11_early_102
          refine T_some ?_
          show ((0 ≤ x2 ∧ x2 ≤ (x4 + 1)) ∧ (0 ≤ x3 ∧ x3 ≤ (x4 + 1)) ∧ (0 ≤ (x4 + 1) ∧ (x4 + 1) ≤ o.1 46 6)) ∧ (o.1 46 6 - (x4 + 1)).toNat < (o.1 46 6 - x4).toNat
          exact ⟨⟨(by omega), (by omega), (by omega)⟩, by omega⟩
        ·
          unfold b_X11_early_102
          refine T_some ?_
          show ((0 ≤ x2 ∧ x2 ≤ (x4 + 1)) ∧ (0 ≤ (x3 + 1) ∧ (x3 + 1) ≤ (x4 + 1)) ∧ (0 ≤ (x4 + 1) ∧ (x4 + 1) ≤ o.1 46 6)) ∧ (o.1 46 6 - (x4 + 1)).toNat < (o.1 46 6 - x4).toNat
          exact ⟨⟨(by omega), (by omega), (by omega)⟩, by omega⟩
      ·
        unfold b_X11_early_102
        refine T_some ?_
        show ((0 ≤ (x2 + 1) ∧ (x2 + 1) ≤ (x4 + 1)) ∧ (0 ≤ x3 ∧ x3 ≤ (x4 + 1)) ∧ (0 ≤ (x4 + 1) ∧ (x4 + 1) ≤ o.1 46 6)) ∧ (o.1 46 6 - (x4 + 1)).toNat < (o.1 46 6 - x4).toNat
        exact ⟨⟨(by omega), (by omega), (by omega)⟩, by omega⟩
  ·
    refine T_some ?_
    show (0 ≤ x2 ∧ x2 ≤ o.1 46 6) ∧ (0 ≤ x3 ∧ x3 ≤ o.1 46 6)
    exact ⟨(by omega), (by omega)⟩
set_option maxRecDepth 20000 in
set_option maxHeartbeats 4000000 in
theorem t_X11_early (o : OO) (x1 : Int) (hB_o : BoxC o) (k0 : inR x1) : T (s_X11_early o x1) (fun v => BoxC v.2 ∧ (Fr [(0, 17), (77, 9999)] o v.2)) := by
  have fr_o : Fr [(0, 17), (77, 9999)] o o := Fr.rf
  have g32_13_o := bC_32_13 hB_o
  have g46_6_o := bC_46_6 hB_o
  unfold s_X11_early
  refine T_qB (t_X4_exists o x1 hB_o (by omega)) (fun r9 hc_r9 hp9 => ?_)
  replace hp9 : ((r9 = 1 ∧ (0 ≤ x1 ∧ x1 < o.1 32 13)) ∨ (r9 = 0 ∧ ¬ (0 ≤ x1 ∧ x1 < o.1 32 13))) := hp9
  refine T_qEq ⟨by omega, by omega⟩ ⟨by decide, by decide⟩ (fun h10 => ?_) (fun h10 => ?_)
  ·
    refine T_some ?_
    show BoxC o ∧ (Fr [(0, 17), (77, 9999)] o o)
    exact ⟨hB_o, fr_o⟩
  ·
    refine T_qB (t_X4_isOf o x1 1 hB_o (by omega) (by omega)) (fun r11 hc_r11 hp11 => ?_)
    replace hp11 : (0 ≤ r11 ∧ r11 ≤ 1) := hp11
    refine T_qEq ⟨by omega, by omega⟩ ⟨by decide, by decide⟩ (fun h12 => ?_) (fun h12 => ?_)
    ·
      refine T_qB2 (t_X11_found o 3 hB_o (by omega)) (fun r13 o15 hc_r13 hp13 => ?_)
      replace hp13 : BoxC o15 ∧ (Fr [(0, 17), (77, 9999)] o o15) ∧ (r13 = -3) := hp13
      obtain ⟨hB_o15, fc_o15, hp13⟩ := hp13
      have fr_o15 : Fr [(0, 17), (77, 9999)] o o15 := Fr.tr fr_o fc_o15 rfl
      have g32_13_o15 : o15.1 32 13 = o.1 32 13 := fc_o15.1 32 13 rfl
      have g46_6_o15 : o15.1 46 6 = o.1 46 6 := fc_o15.1 46 6 rfl
      refine T_some ?_
      show BoxC o15 ∧ (Fr [(0, 17), (77, 9999)] o o15)
      exact ⟨hB_o15, fr_o15⟩
    ·
      unfold e_X11_early_38
      refine T_qB (tl_X11_early_38 o x1 0 0 0 hB_o (by omega) (by omega) (by omega) (by omega) (by omega)) (fun r14 hc_r14 hp15 => ?_)
      obtain ⟨x2_16, x3_17⟩ := r14
      replace hp15 : (0 ≤ x2_16 ∧ x2_16 ≤ o.1 46 6) ∧ (0 ≤ x3_17 ∧ x3_17 ≤ o.1 46 6) := hp15
      have hps_hp15 := hp15
      obtain ⟨hp15_0, hp15_1⟩ := hps_hp15
      replace hp15 := hid hp15
      show T (b_X11_early_108 o x2_16 x3_17) _
      unfold b_X11_early_108
      refine T_some ?_
      show BoxC o ∧ (Fr [(0, 17), (77, 9999)] o o)
      exact ⟨hB_o, fr_o⟩
set_option maxRecDepth 20000 in
set_option maxHeartbeats 4000000 in
theorem tl_X1_off_6 (o : OO) (z1 : Int64) (x3 : Int) (i_z4 : Int64) (i_x6 : Int) (hB_o : BoxC o) (k0 : inR x3) (v0 : 0 ≤ i_x6 ∧ i_x6 ≤ o.1 10 12) : T (loopW (fun s => l_X1_off_6 o z1 x3 s.1 s.2) (i_z4, i_x6)) (fun r => True) := by
  refine T_loop (fun s => (0 ≤ s.2 ∧ s.2 ≤ o.1 10 12)) (fun s => (o.1 10 12 - s.2).toNat) (by exact v0) (fun s hs => ?_)
  obtain ⟨z4, x6⟩ := s
  replace hs : (0 ≤ x6 ∧ x6 ≤ o.1 10 12) := hs
  have w0 := hs
  have g10_12_o := bC_10_12 hB_o
  show T (l_X1_off_6 o z1 x3 z4 x6) _
  unfold l_X1_off_6
  refine T_qLt ⟨by omega, by omega⟩ ⟨by omega, by omega⟩ (fun h1 => ?_) (fun h1 => ?_)
  ·
    refine T_qB (t_X1_stands o x6 x3 hB_o (by omega) (by omega)) (fun r1 hc_r1 hp2 => ?_)
    replace hp2 : (0 ≤ r1 ∧ r1 ≤ 1) := hp2
    refine T_qEq ⟨by omega, by omega⟩ ⟨by decide, by decide⟩ (fun h3 => ?_) (fun h3 => ?_)
    ·
      unfold b_X1_off_48
      refine T_some ?_
      show ((0 ≤ (x6 + 1) ∧ (x6 + 1) ≤ o.1 10 12)) ∧ (o.1 10 12 - (x6 + 1)).toNat < (o.1 10 12 - x6).toNat
      exact ⟨(by omega), by omega⟩
    ·
      refine T_qIn ⟨by omega, by omega⟩ ?_
      refine T_qNm (fun n4 e_n4 => ?_)
      have b_n4 : 0 ≤ n4 ∧ n4 ≤ 63 := by rw [e_n4]; exact bC_11 hB_o _
      refine T_qB (t_X3_has z1 n4) (fun r5 hc_r5 hp4 => ?_)
      replace hp4 : (0 ≤ r5 ∧ r5 ≤ 1) ∧ (HBT z1 n4 r5) := hp4
      have hps_hp4 := hp4
      obtain ⟨hp4_0, hp4_1⟩ := hps_hp4
      replace hp4 := hid hp4
      refine T_qEq ⟨by omega, by omega⟩ ⟨by decide, by decide⟩ (fun h5 => ?_) (fun h5 => ?_)
      ·
        refine T_qNm (fun m7 e_m7 => ?_)
        unfold b_X1_off_48
        refine T_some ?_
        show ((0 ≤ (x6 + 1) ∧ (x6 + 1) ≤ o.1 10 12)) ∧ (o.1 10 12 - (x6 + 1)).toNat < (o.1 10 12 - x6).toNat
        exact ⟨(by omega), by omega⟩
      ·
        unfold b_X1_off_48
        refine T_some ?_
        show ((0 ≤ (x6 + 1) ∧ (x6 + 1) ≤ o.1 10 12)) ∧ (o.1 10 12 - (x6 + 1)).toNat < (o.1 10 12 - x6).toNat
        exact ⟨(by omega), by omega⟩
  ·
    refine T_some ?_
    show True
    exact trivial
set_option maxRecDepth 20000 in
set_option maxHeartbeats 4000000 in
theorem t_X1_off (o : OO) (z1 : Int64) (x3 : Int) (hB_o : BoxC o) (k0 : inR x3) : T (s_X1_off o z1 x3) (fun _ => True) := by
  have g10_12_o := bC_10_12 hB_o
  unfold s_X1_off
  refine T_qNm (fun m8 e_m8 => ?_)
  unfold e_X1_off_6
  refine T_qB (tl_X1_off_6 o z1 x3 m8 0 hB_o (by omega) (by omega)) (fun r6 hc_r6 hp7 => ?_)
  obtain ⟨z4_8, q_z4_8⟩ : ∃ q, q = r6 := ⟨_, rfl⟩
  subst q_z4_8
  show T (b_X1_off_54 o z4_8) _
  unfold b_X1_off_54
  refine T_some ?_
  show True
  exact trivial
set_option maxRecDepth 20000 in
set_option maxHeartbeats 4000000 in
theorem tl_X3_water_4 (o : OO) (i_z1 : Int64) (i_x3 : Int) (hB_o : BoxC o) (v0 : 0 ≤ i_x3 ∧ i_x3 ≤ 64) : T (loopW (fun s => l_X3_water_4 o s.1 s.2) (i_z1, i_x3)) (fun r => True) := by
  refine T_loop (fun s => (0 ≤ s.2 ∧ s.2 ≤ 64)) (fun s => (64 - s.2).toNat) (by exact v0) (fun s hs => ?_)
  obtain ⟨z1, x3⟩ := s
  replace hs : (0 ≤ x3 ∧ x3 ≤ 64) := hs
  have w0 := hs
  show T (l_X3_water_4 o z1 x3) _
  unfold l_X3_water_4
  refine T_qLt ⟨by omega, by omega⟩ ⟨by decide, by decide⟩ (fun h1 => ?_) (fun h1 => ?_)
  ·
    refine T_qB (t_X3_isWater o x3 hB_o (by omega)) (fun r1 hc_r1 hp2 => ?_)
    replace hp2 : ((r1 = 1 ∧ (o.1 8 x3.toNat = 4)) ∨ (r1 = 0 ∧ ¬ (o.1 8 x3.toNat = 4))) := hp2
    refine T_qEq ⟨by omega, by omega⟩ ⟨by decide, by decide⟩ (fun h3 => ?_) (fun h3 => ?_)
    ·
      unfold b_X3_water_25
      refine T_some ?_
      show ((0 ≤ (x3 + 1) ∧ (x3 + 1) ≤ 64)) ∧ (64 - (x3 + 1)).toNat < (64 - x3).toNat
      exact ⟨(by omega), by omega⟩
    ·
      refine T_qB (t_X3_bit x3) (fun p3 hc_p3 hp4 => ?_)
      replace hp4 : (p3 = jshl 1 (Int32.ofInt x3)) := hp4
      refine T_qNm (fun m5 e_m5 => ?_)
      unfold b_X3_water_25
      refine T_some ?_
      show ((0 ≤ (x3 + 1) ∧ (x3 + 1) ≤ 64)) ∧ (64 - (x3 + 1)).toNat < (64 - x3).toNat
      exact ⟨(by omega), by omega⟩
  ·
    refine T_some ?_
    show True
    exact trivial
set_option maxRecDepth 20000 in
set_option maxHeartbeats 4000000 in
theorem t_X3_water (o : OO) (hB_o : BoxC o) : T (s_X3_water o) (fun _ => True) := by
  unfold s_X3_water
  refine T_qNm (fun m6 e_m6 => ?_)
  unfold e_X3_water_4
  refine T_qB (tl_X3_water_4 o m6 0 hB_o (by omega)) (fun r5 hc_r5 hp6 => ?_)
  obtain ⟨z1_7, q_z1_7⟩ : ∃ q, q = r5 := ⟨_, rfl⟩
  subst q_z1_7
  show T (b_X3_water_31 o z1_7) _
  unfold b_X3_water_31
  refine T_some ?_
  show True
  exact trivial
set_option maxRecDepth 20000 in
set_option maxHeartbeats 4000000 in
theorem tl_J7_fill_53178__22_5 (x1 : Int) (x3 : Int) (i_o : OO) (i_x2 : Int) (hB_i_o : BoxC i_o) (k0 : -2147483648 ≤ x1 ∧ x1 ≤ 2147483647) (k1 : x3 = 32) (v0 : 0 ≤ i_x2 ∧ i_x2 ≤ 32) (v1 : FP i_o 22 i_x2 x1) : T (loopW (fun s => l_J7_fill_53178__22_5 x1 x3 s.1 s.2) (i_o, i_x2)) (fun r => BoxC r ∧ (Fr [(22, 9999)] i_o r) ∧ (FP r 22 32 x1)) := by
  have fr_i_o : Fr [(22, 9999)] i_o i_o := Fr.rf
  refine T_loop (fun s => BoxC s.1 ∧ (Fr [(22, 9999)] i_o s.1) ∧ (0 ≤ s.2 ∧ s.2 ≤ 32) ∧ (FP s.1 22 s.2 x1)) (fun s => (32 - s.2).toNat) (by exact ⟨hB_i_o, fr_i_o, v0, v1⟩) (fun s hs => ?_)
  obtain ⟨o, x2⟩ := s
  replace hs : BoxC o ∧ (Fr [(22, 9999)] i_o o) ∧ (0 ≤ x2 ∧ x2 ≤ 32) ∧ (FP o 22 x2 x1) := hs
  obtain ⟨hB_o, fr_o, w0, w1⟩ := hs
  show T (l_J7_fill_53178__22_5 x1 x3 o x2) _
  unfold l_J7_fill_53178__22_5
  refine T_qLt ⟨by omega, by omega⟩ ⟨by omega, by omega⟩ (fun h1 => ?_) (fun h1 => ?_)
  ·
    refine T_qIn ⟨by omega, by omega⟩ ?_
    refine T_qNm (fun o2 e_o2 => ?_)
    have hB_o2 : BoxC o2 := by rw [e_o2]; exact Box.s1 hB_o (show -2147483648 ≤ x1 ∧ x1 ≤ 2147483647 from ⟨by omega, by omega⟩)
    have fr_o2 : Fr [(22, 9999)] i_o o2 := by rw [e_o2]; exact Fr.s1 fr_o rfl
    refine T_some ?_
    show (BoxC o2 ∧ (Fr [(22, 9999)] i_o o2) ∧ (0 ≤ (x2 + 1) ∧ (x2 + 1) ≤ 32) ∧ (FP o2 22 (x2 + 1) x1)) ∧ (32 - (x2 + 1)).toNat < (32 - x2).toNat
    exact ⟨⟨hB_o2, fr_o2, (by omega), (by first | assumption | (have q2 := w1; rwa [show x2 = 32 by omega] at q2) | exact FP_0 | (rw [e_o2]; exact FP_s w1 (by omega)))⟩, by omega⟩
  ·
    refine T_some ?_
    show BoxC o ∧ (Fr [(22, 9999)] i_o o) ∧ (FP o 22 32 x1)
    exact ⟨hB_o, fr_o, (by first | assumption | (have q2 := w1; rwa [show x2 = 32 by omega] at q2) | exact FP_0 | (rw [e_o]; exact FP_s w1 (by omega)))⟩
set_option maxRecDepth 20000 in
set_option maxHeartbeats 4000000 in
theorem t_J7_fill_53178__22 (o : OO) (x1 : Int) (hB_o : BoxC o) (k0 : -2147483648 ≤ x1 ∧ x1 ≤ 2147483647) : T (s_J7_fill_53178__22 o x1) (fun v => BoxC v ∧ (Fr [(22, 9999)] o v) ∧ (FP v 22 32 x1)) := by
  have fr_o : Fr [(22, 9999)] o o := Fr.rf
  unfold s_J7_fill_53178__22
  unfold e_J7_fill_53178__22_5
  refine T_qB (tl_J7_fill_53178__22_5 x1 32 o 0 hB_o (by omega) (by omega) (by omega) (by first | assumption | (have q2 := w1; rwa [show x2 = 32 by omega] at q2) | exact FP_0 | (rw [e_o]; exact FP_s w1 (by omega)))) (fun r2 hc_r2 hp3 => ?_)
  obtain ⟨o_4, q_o_4⟩ : ∃ q, q = r2 := ⟨_, rfl⟩
  subst q_o_4
  replace hp3 : BoxC o_4 ∧ (Fr [(22, 9999)] o o_4) ∧ (FP o_4 22 32 x1) := hp3
  have hps_hp3 := hp3
  obtain ⟨hp3_0, hp3_1, hp3_2⟩ := hps_hp3
  obtain ⟨hB_o_4, fc_o_4, hp3⟩ := hp3
  replace hp3 := hid hp3
  have fr_o_4 : Fr [(22, 9999)] o o_4 := Fr.tr fr_o fc_o_4 rfl
  show T (b_J7_fill_53178__22_20 o_4) _
  unfold b_J7_fill_53178__22_20
  refine T_some ?_
  show BoxC o_4 ∧ (Fr [(22, 9999)] o o_4) ∧ (FP o_4 22 32 x1)
  exact ⟨hB_o_4, fr_o_4, (by first | assumption | (have q2 := w1; rwa [show x2 = 32 by omega] at q2) | exact FP_0 | (rw [e_o_4]; exact FP_s w1 (by omega)))⟩
set_option maxRecDepth 20000 in
set_option maxHeartbeats 4000000 in
theorem tl_X1_firstIn_3 (o : OO) (z1 : Int64) (z3 : Int64) (i_x5 : Int) (hB_o : BoxC o) (v0 : 0 ≤ i_x5 ∧ i_x5 ≤ o.1 10 12) : T (loopW (fun s => l_X1_firstIn_3 o z1 z3 s) i_x5) (Sum.elim (fun r => (0 ≤ r ∧ r < o.1 10 12)) (fun _ => True)) := by
  refine T_loop (fun s => (0 ≤ s ∧ s ≤ o.1 10 12)) (fun s => (o.1 10 12 - s).toNat) (by exact v0) (fun s hs => ?_)
  obtain ⟨x5, q_x5⟩ : ∃ q, q = s := ⟨_, rfl⟩
  subst q_x5
  replace hs : (0 ≤ x5 ∧ x5 ≤ o.1 10 12) := hs
  have w0 := hs
  have g10_12_o := bC_10_12 hB_o
  show T (l_X1_firstIn_3 o z1 z3 x5) _
  unfold l_X1_firstIn_3
  refine T_qLt ⟨by omega, by omega⟩ ⟨by omega, by omega⟩ (fun h1 => ?_) (fun h1 => ?_)
  ·
    refine T_qJe (fun h2 => ?_) (fun h2 => ?_)
    ·
      refine T_qIn ⟨by omega, by omega⟩ ?_
      refine T_qNm (fun n2 e_n2 => ?_)
      have b_n2 : 0 ≤ n2 ∧ n2 ≤ 63 := by rw [e_n2]; exact bC_11 hB_o _
      refine T_qB (t_X3_has z1 n2) (fun r3 hc_r3 hp3 => ?_)
      replace hp3 : (0 ≤ r3 ∧ r3 ≤ 1) ∧ (HBT z1 n2 r3) := hp3
      have hps_hp3 := hp3
      obtain ⟨hp3_0, hp3_1⟩ := hps_hp3
      replace hp3 := hid hp3
      refine T_qEq ⟨by omega, by omega⟩ ⟨by decide, by decide⟩ (fun h4 => ?_) (fun h4 => ?_)
      ·
        unfold b_X1_firstIn_40
        refine T_some ?_
        show ((0 ≤ (x5 + 1) ∧ (x5 + 1) ≤ o.1 10 12)) ∧ (o.1 10 12 - (x5 + 1)).toNat < (o.1 10 12 - x5).toNat
        exact ⟨(by omega), by omega⟩
      ·
        refine T_some ?_
        show (0 ≤ x5 ∧ x5 < o.1 10 12)
        exact (by omega)
    ·
      unfold b_X1_firstIn_40
      refine T_some ?_
      show ((0 ≤ (x5 + 1) ∧ (x5 + 1) ≤ o.1 10 12)) ∧ (o.1 10 12 - (x5 + 1)).toNat < (o.1 10 12 - x5).toNat
      exact ⟨(by omega), by omega⟩
  ·
    refine T_some ?_
    show True
    exact trivial
set_option maxRecDepth 20000 in
set_option maxHeartbeats 4000000 in
theorem t_X1_firstIn (o : OO) (z1 : Int64) (z3 : Int64) (hB_o : BoxC o) : T (s_X1_firstIn o z1 z3) (fun v => (-9 ≤ v ∧ v ≤ 31) ∧ (v = -9 ∨ 0 ≤ v)) := by
  have g10_12_o := bC_10_12 hB_o
  unfold s_X1_firstIn
  unfold e_X1_firstIn_3
  refine T_qB (tl_X1_firstIn_3 o z1 z3 0 hB_o (by omega)) (fun r5 hc_r5 hp6 => ?_)
  rcases r5 with r5 | r5
  ·
    obtain ⟨x5_7, q_x5_7⟩ : ∃ q, q = r5 := ⟨_, rfl⟩
    subst q_x5_7
    replace hp6 : (0 ≤ x5_7 ∧ x5_7 < o.1 10 12) := hp6
    show T (b_X1_firstIn_37 o x5_7) _
    unfold b_X1_firstIn_37
    refine T_some ?_
    show (-9 ≤ x5_7 ∧ x5_7 ≤ 31) ∧ (x5_7 = -9 ∨ 0 ≤ x5_7)
    exact ⟨(by omega), (by omega)⟩
  ·
    show T (b_X1_firstIn_46 o) _
    unfold b_X1_firstIn_46
    refine T_some ?_
    show (-9 ≤ (-9) ∧ (-9) ≤ 31) ∧ ((-9) = -9 ∨ 0 ≤ (-9))
    exact ⟨(by omega), (by omega)⟩
set_option maxRecDepth 20000 in
set_option maxHeartbeats 4000000 in
theorem tl_X1_nearest_9 (o : OO) (z2 : Int64) (z4 : Int64) (i_z6 : Int64) (i_x8 : Int) (hB_o : BoxC o) (v0 : 0 ≤ i_x8 ∧ i_x8 ≤ 64) : T (loopW (fun s => l_X1_nearest_9 o z2 z4 s.1 s.2) (i_z6, i_x8)) (Sum.elim (fun r => (0 ≤ r ∧ r ≤ 31)) (Sum.elim (fun _ => True) (fun _ => True))) := by
  refine T_loop (fun s => (0 ≤ s.2 ∧ s.2 ≤ 64)) (fun s => (64 - s.2).toNat) (by exact v0) (fun s hs => ?_)
  obtain ⟨z6, x8⟩ := s
  replace hs : (0 ≤ x8 ∧ x8 ≤ 64) := hs
  have w0 := hs
  show T (l_X1_nearest_9 o z2 z4 z6 x8) _
  unfold l_X1_nearest_9
  refine T_qLt ⟨by omega, by omega⟩ ⟨by decide, by decide⟩ (fun h1 => ?_) (fun h1 => ?_)
  ·
    refine T_qB (t_X1_firstIn o z6 z2 hB_o) (fun r1 hc_r1 hp2 => ?_)
    replace hp2 : (-9 ≤ r1 ∧ r1 ≤ 31) ∧ (r1 = -9 ∨ 0 ≤ r1) := hp2
    have hps_hp2 := hp2
    obtain ⟨hp2_0, hp2_1⟩ := hps_hp2
    replace hp2 := hid hp2
    refine T_qEq ⟨by omega, by omega⟩ ⟨by decide, by decide⟩ (fun h3 => ?_) (fun h3 => ?_)
    ·
      refine T_qB (t_X3_spread z6) (fun p3 hc_p3 hp4 => ?_)
      refine T_qNm (fun m5 e_m5 => ?_)
      refine T_qJe (fun h5 => ?_) (fun h5 => ?_)
      ·
        refine T_some ?_
        show True
        exact trivial
      ·
        refine T_some ?_
        show ((0 ≤ (x8 + 1) ∧ (x8 + 1) ≤ 64)) ∧ (64 - (x8 + 1)).toNat < (64 - x8).toNat
        exact ⟨(by omega), by omega⟩
    ·
      refine T_some ?_
      show (0 ≤ r1 ∧ r1 ≤ 31)
      exact (by omega)
  ·
    refine T_some ?_
    show True
    exact trivial
set_option maxRecDepth 20000 in
set_option maxHeartbeats 4000000 in
theorem t_X1_nearest (o : OO) (x1 : Int) (z2 : Int64) (z4 : Int64) (hB_o : BoxC o) (k0 : 0 ≤ x1 ∧ x1 ≤ 63) : T (s_X1_nearest o x1 z2 z4) (fun v => (-9 ≤ v ∧ v ≤ 31) ∧ (v = -9 ∨ 0 ≤ v)) := by
  unfold s_X1_nearest
  refine T_qB (t_X3_bit x1) (fun p6 hc_p6 hp6 => ?_)
  replace hp6 : (p6 = jshl 1 (Int32.ofInt x1)) := hp6
  unfold e_X1_nearest_9
  refine T_qB (tl_X1_nearest_9 o z2 z4 p6 0 hB_o (by omega)) (fun r7 hc_r7 hp8 => ?_)
  rcases r7 with r7 | r7 | r7
  ·
    obtain ⟨x9_9, q_x9_9⟩ : ∃ q, q = r7 := ⟨_, rfl⟩
    subst q_x9_9
    replace hp8 : (0 ≤ x9_9 ∧ x9_9 ≤ 31) := hp8
    show T (b_X1_nearest_32 o x9_9) _
    unfold b_X1_nearest_32
    refine T_some ?_
    show (-9 ≤ x9_9 ∧ x9_9 ≤ 31) ∧ (x9_9 = -9 ∨ 0 ≤ x9_9)
    exact ⟨(by omega), (by omega)⟩
  ·
    show T (b_X1_nearest_53 o) _
    unfold b_X1_nearest_53
    refine T_some ?_
    show (-9 ≤ (-9) ∧ (-9) ≤ 31) ∧ ((-9) = -9 ∨ 0 ≤ (-9))
    exact ⟨(by omega), (by omega)⟩
  ·
    show T (b_X1_nearest_66 o) _
    unfold b_X1_nearest_66
    refine T_some ?_
    show (-9 ≤ (-9) ∧ (-9) ≤ 31) ∧ ((-9) = -9 ∨ 0 ≤ (-9))
    exact ⟨(by omega), (by omega)⟩
set_option maxRecDepth 20000 in
set_option maxHeartbeats 4000000 in
theorem tl_X1_shopsLeft_99 (o : OO) (x7 : Int) (i_z8 : Int64) (i_x10 : Int) (hB_o : BoxC o) (k0 : inR x7) (v0 : 0 ≤ i_x10 ∧ i_x10 ≤ o.1 10 12) : T (loopW (fun s => l_X1_shopsLeft_99 o x7 s.1 s.2) (i_z8, i_x10)) (fun r => True) := by
  refine T_loop (fun s => (0 ≤ s.2 ∧ s.2 ≤ o.1 10 12)) (fun s => (o.1 10 12 - s.2).toNat) (by exact v0) (fun s hs => ?_)
  obtain ⟨z8, x10⟩ := s
  replace hs : (0 ≤ x10 ∧ x10 ≤ o.1 10 12) := hs
  have w0 := hs
  have g10_12_o := bC_10_12 hB_o
  show T (l_X1_shopsLeft_99 o x7 z8 x10) _
  unfold l_X1_shopsLeft_99
  refine T_qLt ⟨by omega, by omega⟩ ⟨by omega, by omega⟩ (fun h1 => ?_) (fun h1 => ?_)
  ·
    refine T_qIn ⟨by omega, by omega⟩ ?_
    refine T_qNm (fun n2 e_n2 => ?_)
    have b_n2 : -2147483648 ≤ n2 ∧ n2 ≤ 2147483647 := by rw [e_n2]; exact bC_22 hB_o _
    refine T_qLt ⟨by omega, by omega⟩ ⟨by omega, by omega⟩ (fun h2 => ?_) (fun h2 => ?_)
    ·
      refine T_qNm (fun m3 e_m3 => ?_)
      unfold b_X1_shopsLeft_133
      refine T_some ?_
      show ((0 ≤ (x10 + 1) ∧ (x10 + 1) ≤ o.1 10 12)) ∧ (o.1 10 12 - (x10 + 1)).toNat < (o.1 10 12 - x10).toNat
      exact ⟨(by omega), by omega⟩
    ·
      unfold b_X1_shopsLeft_133
      refine T_some ?_
      show ((0 ≤ (x10 + 1) ∧ (x10 + 1) ≤ o.1 10 12)) ∧ (o.1 10 12 - (x10 + 1)).toNat < (o.1 10 12 - x10).toNat
      exact ⟨(by omega), by omega⟩
  ·
    refine T_some ?_
    show True
    exact trivial
set_option maxRecDepth 20000 in
set_option maxHeartbeats 4000000 in
theorem tl_X1_shopsLeft_11 (z1 : Int64) (z3 : Int64) (z5 : Int64) (x7 : Int) (i_o : OO) (i_x8 : Int) (hB_i_o : BoxC i_o) (k0 : inR x7) (v0 : 0 ≤ i_x8 ∧ i_x8 ≤ i_o.1 10 12) (v1 : WKC i_o (40 * i_x8)) : T (loopW (fun s => l_X1_shopsLeft_11 z1 z3 z5 x7 s.1 s.2) (i_o, i_x8)) (fun r => BoxC r ∧ (Fr [(22, 9999)] i_o r)) := by
  have fr_i_o : Fr [(22, 9999)] i_o i_o := Fr.rf
  refine T_loop (fun s => BoxC s.1 ∧ (Fr [(22, 9999)] i_o s.1) ∧ (0 ≤ s.2 ∧ s.2 ≤ s.1.1 10 12) ∧ (WKC s.1 (40 * s.2))) (fun s => (s.1.1 10 12 - s.2).toNat) (by exact ⟨hB_i_o, fr_i_o, v0, v1⟩) (fun s hs => ?_)
  obtain ⟨o, x8⟩ := s
  replace hs : BoxC o ∧ (Fr [(22, 9999)] i_o o) ∧ (0 ≤ x8 ∧ x8 ≤ o.1 10 12) ∧ (WKC o (40 * x8)) := hs
  obtain ⟨hB_o, fr_o, w0, w1⟩ := hs
  have g10_12_i := bC_10_12 hB_i_o
  have g10_12_o : o.1 10 12 = i_o.1 10 12 := fr_o.1 10 12 rfl
  show T (l_X1_shopsLeft_11 z1 z3 z5 x7 o x8) _
  unfold l_X1_shopsLeft_11
  refine T_qLt ⟨by omega, by omega⟩ ⟨by omega, by omega⟩ (fun h3 => ?_) (fun h3 => ?_)
  ·
    refine T_qIn ⟨by omega, by omega⟩ ?_
    refine T_qNm (fun n5 e_n5 => ?_)
    have b_n5 : 0 ≤ n5 ∧ n5 ≤ 40 := by rw [e_n5]; exact bC_14 hB_o _
    refine T_qEq ⟨by omega, by omega⟩ ⟨by decide, by decide⟩ (fun h4 => ?_) (fun h4 => ?_)
    ·
      unfold b_X1_shopsLeft_87
      refine T_some ?_
      show (BoxC o ∧ (Fr [(22, 9999)] i_o o) ∧ (0 ≤ (x8 + 1) ∧ (x8 + 1) ≤ o.1 10 12) ∧ (WKC o (40 * (x8 + 1)))) ∧ (o.1 10 12 - (x8 + 1)).toNat < (o.1 10 12 - x8).toNat
      exact ⟨⟨hB_o, fr_o, (by omega), (by first | assumption | exact WKC.up w1 (by omega))⟩, by omega⟩
    ·
      refine T_qIn ⟨by omega, by omega⟩ ?_
      refine T_qNm (fun n7 e_n7 => ?_)
      have b_n7 : 0 ≤ n7 ∧ n7 ≤ 63 := by rw [e_n7]; exact bC_11 hB_o _
      refine T_qB (t_X3_has z3 n7) (fun r8 hc_r8 hp5 => ?_)
      replace hp5 : (0 ≤ r8 ∧ r8 ≤ 1) ∧ (HBT z3 n7 r8) := hp5
      have hps_hp5 := hp5
      obtain ⟨hp5_0, hp5_1⟩ := hps_hp5
      replace hp5 := hid hp5
      refine T_qEq ⟨by omega, by omega⟩ ⟨by decide, by decide⟩ (fun h6 => ?_) (fun h6 => ?_)
      ·
        refine T_qIn ⟨by omega, by omega⟩ ?_
        refine T_qNm (fun n11 e_n11 => ?_)
        have b_n11 : 0 ≤ n11 ∧ n11 ≤ 63 := by rw [e_n11]; exact bC_11 hB_o _
        refine T_qB (t_X1_nearest o n11 z1 z5 hB_o (by omega)) (fun r12 hc_r12 hp7 => ?_)
        replace hp7 : (-9 ≤ r12 ∧ r12 ≤ 31) ∧ (r12 = -9 ∨ 0 ≤ r12) := hp7
        have hps_hp7 := hp7
        obtain ⟨hp7_0, hp7_1⟩ := hps_hp7
        replace hp7 := hid hp7
        refine T_qEq ⟨by omega, by omega⟩ ⟨by decide, by decide⟩ (fun h8 => ?_) (fun h8 => ?_)
        ·
          unfold b_X1_shopsLeft_87
          refine T_some ?_
          show (BoxC o ∧ (Fr [(22, 9999)] i_o o) ∧ (0 ≤ (x8 + 1) ∧ (x8 + 1) ≤ o.1 10 12) ∧ (WKC o (40 * (x8 + 1)))) ∧ (o.1 10 12 - (x8 + 1)).toNat < (o.1 10 12 - x8).toNat
          exact ⟨⟨hB_o, fr_o, (by omega), (by first | assumption | exact WKC.up w1 (by omega))⟩, by omega⟩
        ·
          refine T_qIn ⟨by omega, by omega⟩ ?_
          refine T_qNm (fun n15 e_n15 => ?_)
          have b_n15 : -2147483648 ≤ n15 ∧ n15 ≤ 2147483647 := by rw [e_n15]; exact bC_22 hB_o _
          have wk15 := w1 r12.toNat (by omega)
          refine T_qIn ⟨by omega, by omega⟩ ?_
          refine T_qNm (fun n17 e_n17 => ?_)
          have b_n17 : 0 ≤ n17 ∧ n17 ≤ 40 := by rw [e_n17]; exact bC_14 hB_o _
          refine T_qIn ⟨by omega, by omega⟩ ?_
          refine T_qNm (fun o19 e_o19 => ?_)
          have hB_o19 : BoxC o19 := by rw [e_o19]; exact Box.s1 hB_o (show -2147483648 ≤ (n15 + n17) ∧ (n15 + n17) ≤ 2147483647 from ⟨by omega, by omega⟩)
          have fr_o19 : Fr [(22, 9999)] i_o o19 := by rw [e_o19]; exact Fr.s1 fr_o rfl
          have g10_12_o19 : o19.1 10 12 = o.1 10 12 := by rw [e_o19]; rfl
          have wk19 : WKC o19 (40 * (x8 + 1)) := by rw [e_o19]; exact WKC_st w1 (by omega) (by omega)
          unfold b_X1_shopsLeft_87
          refine T_some ?_
          show (BoxC o19 ∧ (Fr [(22, 9999)] i_o o19) ∧ (0 ≤ (x8 + 1) ∧ (x8 + 1) ≤ o19.1 10 12) ∧ (WKC o19 (40 * (x8 + 1)))) ∧ (o19.1 10 12 - (x8 + 1)).toNat < (o.1 10 12 - x8).toNat
          exact ⟨⟨hB_o19, fr_o19, (by omega), (by first | assumption | exact WKC.up w1 (by omega))⟩, by omega⟩
      ·
        unfold b_X1_shopsLeft_87
        refine T_some ?_
        show (BoxC o ∧ (Fr [(22, 9999)] i_o o) ∧ (0 ≤ (x8 + 1) ∧ (x8 + 1) ≤ o.1 10 12) ∧ (WKC o (40 * (x8 + 1)))) ∧ (o.1 10 12 - (x8 + 1)).toNat < (o.1 10 12 - x8).toNat
        exact ⟨⟨hB_o, fr_o, (by omega), (by first | assumption | exact WKC.up w1 (by omega))⟩, by omega⟩
  ·
    refine T_some ?_
    show BoxC o ∧ (Fr [(22, 9999)] i_o o)
    exact ⟨hB_o, fr_o⟩
set_option maxRecDepth 20000 in
set_option maxHeartbeats 4000000 in
theorem t_X1_shopsLeft (o : OO) (z1 : Int64) (z3 : Int64) (z5 : Int64) (x7 : Int) (hB_o : BoxC o) (k0 : inR x7) : T (s_X1_shopsLeft o z1 z3 z5 x7) (fun v => BoxC v.2 ∧ (Fr [(22, 9999)] o v.2)) := by
  have fr_o : Fr [(22, 9999)] o o := Fr.rf
  have g10_12_o := bC_10_12 hB_o
  unfold s_X1_shopsLeft
  refine T_qB (t_J7_fill_53178__22 o 0 hB_o (by omega)) (fun o22 hc_o22 hp9 => ?_)
  replace hp9 : BoxC o22 ∧ (Fr [(22, 9999)] o o22) ∧ (FP o22 22 32 0) := hp9
  obtain ⟨hB_o22, fc_o22, hp9⟩ := hp9
  have fr_o22 : Fr [(22, 9999)] o o22 := Fr.tr fr_o fc_o22 rfl
  have g10_12_o22 : o22.1 10 12 = o.1 10 12 := fc_o22.1 10 12 rfl
  have wk22 : WKC o22 (40 * 0) := WKC_0 hp9
  unfold e_X1_shopsLeft_11
  refine T_qB (tl_X1_shopsLeft_11 z1 z3 z5 x7 o22 0 hB_o22 (by omega) (by omega) (by first | assumption | exact WKC.up w1 (by omega))) (fun r10 hc_r10 hp11 => ?_)
  obtain ⟨o_12, q_o_12⟩ : ∃ q, q = r10 := ⟨_, rfl⟩
  subst q_o_12
  replace hp11 : BoxC o_12 ∧ (Fr [(22, 9999)] o22 o_12) := hp11
  have hps_hp11 := hp11
  obtain ⟨hp11_0, hp11_1⟩ := hps_hp11
  obtain ⟨hB_o_12, fc_o_12⟩ := hp11
  have fr_o_12 : Fr [(22, 9999)] o o_12 := Fr.tr fr_o22 fc_o_12 rfl
  have g10_12_o_12 : o_12.1 10 12 = o22.1 10 12 := fc_o_12.1 10 12 rfl
  show T (b_X1_shopsLeft_93 o_12 z1 x7) _
  unfold b_X1_shopsLeft_93
  unfold e_X1_shopsLeft_99
  refine T_qB (tl_X1_shopsLeft_99 o_12 x7 z1 0 hB_o_12 (by omega) (by omega)) (fun r13 hc_r13 hp14 => ?_)
  obtain ⟨z8_15, q_z8_15⟩ : ∃ q, q = r13 := ⟨_, rfl⟩
  subst q_z8_15
  show T (b_X1_shopsLeft_139 o_12 z8_15) _
  unfold b_X1_shopsLeft_139
  refine T_some ?_
  show BoxC o_12 ∧ (Fr [(22, 9999)] o o_12)
  exact ⟨hB_o_12, fr_o_12⟩
set_option maxRecDepth 20000 in
set_option maxHeartbeats 4000000 in
theorem tl_X11_fall_75 (x2 : Int) (z3 : Int64) (x5 : Int) (z6 : Int64) (i_o : OO) (i_z8 : Int64) (i_x10 : Int) (hB_i_o : BoxC i_o) (k0 : inR x2) (k1 : 0 ≤ x5 ∧ x5 ≤ 9999) (v0 : 0 ≤ i_x10 ∧ i_x10 ≤ x2) : T (loopW (fun s => l_X11_fall_75 x2 z3 x5 z6 s.1 s.2.1 s.2.2) (i_o, i_z8, i_x10)) (Sum.elim (fun r => BoxC r.1 ∧ (Fr [(22, 9999)] i_o r.1)) (fun r => BoxC r.1 ∧ (Fr [(22, 9999)] i_o r.1))) := by
  have fr_i_o : Fr [(22, 9999)] i_o i_o := Fr.rf
  refine T_loop (fun s => BoxC s.1 ∧ (Fr [(22, 9999)] i_o s.1) ∧ (0 ≤ s.2.2 ∧ s.2.2 ≤ x2)) (fun s => (x2 - s.2.2).toNat) (by exact ⟨hB_i_o, fr_i_o, v0⟩) (fun s hs => ?_)
  obtain ⟨o, z8, x10⟩ := s
  replace hs : BoxC o ∧ (Fr [(22, 9999)] i_o o) ∧ (0 ≤ x10 ∧ x10 ≤ x2) := hs
  obtain ⟨hB_o, fr_o, w0⟩ := hs
  have g32_13_i := bC_32_13 hB_i_o
  have g32_13_o : o.1 32 13 = i_o.1 32 13 := fr_o.1 32 13 rfl
  show T (l_X11_fall_75 x2 z3 x5 z6 o z8 x10) _
  unfold l_X11_fall_75
  refine T_qLt ⟨by omega, by omega⟩ ⟨by omega, by omega⟩ (fun h1 => ?_) (fun h1 => ?_)
  ·
    refine T_qB (t_X3_water o hB_o) (fun p4 hc_p4 hp2 => ?_)
    refine T_qB2 (t_X1_shopsLeft o z8 z3 ((z3 ||| p4) ^^^ (-1 : Int64)) x5 hB_o (by omega)) (fun p6 o8 hc_p6 hp3 => ?_)
    replace hp3 : BoxC o8 ∧ (Fr [(22, 9999)] o o8) := hp3
    obtain ⟨hB_o8, fc_o8⟩ := hp3
    have fr_o8 : Fr [(22, 9999)] i_o o8 := Fr.tr fr_o fc_o8 rfl
    have g32_13_o8 : o8.1 32 13 = o.1 32 13 := fc_o8.1 32 13 rfl
    refine T_qJe (fun h4 => ?_) (fun h4 => ?_)
    ·
      refine T_some ?_
      show BoxC o8 ∧ (Fr [(22, 9999)] i_o o8)
      exact ⟨hB_o8, fr_o8⟩
    ·
      refine T_some ?_
      show (BoxC o8 ∧ (Fr [(22, 9999)] i_o o8) ∧ (0 ≤ (x10 + 1) ∧ (x10 + 1) ≤ x2)) ∧ (x2 - (x10 + 1)).toNat < (x2 - x10).toNat
      exact ⟨⟨hB_o8, fr_o8, (by omega)⟩, by omega⟩
  ·
    refine T_some ?_
    show BoxC o ∧ (Fr [(22, 9999)] i_o o)
    exact ⟨hB_o, fr_o⟩
set_option maxRecDepth 20000 in
set_option maxHeartbeats 4000000 in
theorem t_X11_fall (o : OO) (x1 : Int) (x2 : Int) (hB_o : BoxC o) (k0 : inR x1) (k1 : inR x2) : T (s_X11_fall o x1 x2) (fun v => BoxC v.2 ∧ (Fr [(0, 16), (0, 17), (22, 9999), (77, 9999)] o v.2)) := by
  have fr_o : Fr [(0, 16), (0, 17), (22, 9999), (77, 9999)] o o := Fr.rf
  have g32_13_o := bC_32_13 hB_o
  unfold s_X11_fall
  refine T_qB (t_X4_exists o x1 hB_o (by omega)) (fun r9 hc_r9 hp5 => ?_)
  replace hp5 : ((r9 = 1 ∧ (0 ≤ x1 ∧ x1 < o.1 32 13)) ∨ (r9 = 0 ∧ ¬ (0 ≤ x1 ∧ x1 < o.1 32 13))) := hp5
  refine T_qEq ⟨by omega, by omega⟩ ⟨by decide, by decide⟩ (fun h6 => ?_) (fun h6 => ?_)
  ·
    unfold b_X11_fall_21
    refine T_some ?_
    show BoxC o ∧ (Fr [(0, 16), (0, 17), (22, 9999), (77, 9999)] o o)
    exact ⟨hB_o, fr_o⟩
  ·
    refine T_qLt ⟨by omega, by omega⟩ ⟨by decide, by decide⟩ (fun h7 => ?_) (fun h7 => ?_)
    ·
      unfold b_X11_fall_21
      refine T_some ?_
      show BoxC o ∧ (Fr [(0, 16), (0, 17), (22, 9999), (77, 9999)] o o)
      exact ⟨hB_o, fr_o⟩
    ·
      refine T_qLt ⟨by decide, by decide⟩ ⟨by omega, by omega⟩ (fun h8 => ?_) (fun h8 => ?_)
      ·
        unfold b_X11_fall_21
        refine T_some ?_
        show BoxC o ∧ (Fr [(0, 16), (0, 17), (22, 9999), (77, 9999)] o o)
        exact ⟨hB_o, fr_o⟩
      ·
        refine T_qB (t_X4_isOf o x1 1 hB_o (by omega) (by omega)) (fun r11 hc_r11 hp9 => ?_)
        replace hp9 : (0 ≤ r11 ∧ r11 ≤ 1) := hp9
        refine T_qEq ⟨by omega, by omega⟩ ⟨by decide, by decide⟩ (fun h10 => ?_) (fun h10 => ?_)
        ·
          refine T_qB2 (t_X11_found o 3 hB_o (by omega)) (fun r19 o21 hc_r19 hp11 => ?_)
          replace hp11 : BoxC o21 ∧ (Fr [(0, 17), (77, 9999)] o o21) ∧ (r19 = -3) := hp11
          obtain ⟨hB_o21, fc_o21, hp11⟩ := hp11
          have fr_o21 : Fr [(0, 16), (0, 17), (22, 9999), (77, 9999)] o o21 := Fr.tr fr_o fc_o21 rfl
          have g32_13_o21 : o21.1 32 13 = o.1 32 13 := fc_o21.1 32 13 rfl
          refine T_some ?_
          show BoxC o21 ∧ (Fr [(0, 16), (0, 17), (22, 9999), (77, 9999)] o o21)
          exact ⟨hB_o21, fr_o21⟩
        ·
          refine T_qB (t_X4_cells o x1 hB_o (by omega)) (fun p13 hc_p13 hp12 => ?_)
          refine T_qB (t_X11_inForce o 4 hB_o (by omega)) (fun r15 hc_r15 hp13 => ?_)
          replace hp13 : (0 ≤ r15 ∧ r15 ≤ 9999) := hp13
          refine T_qB (t_X1_off o p13 1 hB_o (by omega)) (fun p17 hc_p17 hp14 => ?_)
          unfold e_X11_fall_75
          refine T_qB (tl_X11_fall_75 x2 p13 r15 p17 o p17 0 hB_o (by omega) (by omega) (by omega)) (fun r15 hc_r15 hp16 => ?_)
          rcases r15 with r15 | r15
          ·
            obtain ⟨o_17, z8_18⟩ := r15
            replace hp16 : BoxC o_17 ∧ (Fr [(22, 9999)] o o_17) := hp16
            have hps_hp16 := hp16
            obtain ⟨hp16_0, hp16_1⟩ := hps_hp16
            obtain ⟨hB_o_17, fc_o_17⟩ := hp16
            have fr_o_17 : Fr [(0, 16), (0, 17), (22, 9999), (77, 9999)] o o_17 := Fr.tr fr_o fc_o_17 rfl
            have g32_13_o_17 : o_17.1 32 13 = o.1 32 13 := fc_o_17.1 32 13 rfl
            show T (b_X11_fall_116 o_17 p17 z8_18) _
            unfold b_X11_fall_116
            unfold b_X11_fall_129
            refine T_qNm (fun o1 e_o1 => ?_)
            have hB_o1 : BoxC o1 := by rw [e_o1]; exact Box.s2 hB_o_17
            have fr_o1 : Fr [(0, 16), (0, 17), (22, 9999), (77, 9999)] o o1 := by rw [e_o1]; exact Fr.s2 fr_o_17 rfl
            have g32_13_o1 : o1.1 32 13 = o_17.1 32 13 := by rw [e_o1]; rfl
            refine T_qB (t_J13_bitCount_95d88 (o1.2 0 16)) (fun r2 hc_r2 hp19 => ?_)
            replace hp19 : (inR r2) ∧ (r2 = PC (o1.2 0 16)) := hp19
            have hps_hp19 := hp19
            obtain ⟨hp19_0, hp19_1⟩ := hps_hp19
            replace hp19 := hid hp19
            refine T_some ?_
            show BoxC o1 ∧ (Fr [(0, 16), (0, 17), (22, 9999), (77, 9999)] o o1)
            exact ⟨hB_o1, fr_o1⟩
          ·
            obtain ⟨o_20, z8_21⟩ := r15
            replace hp16 : BoxC o_20 ∧ (Fr [(22, 9999)] o o_20) := hp16
            have hps_hp16 := hp16
            obtain ⟨hp16_0, hp16_1⟩ := hps_hp16
            obtain ⟨hB_o_20, fc_o_20⟩ := hp16
            have fr_o_20 : Fr [(0, 16), (0, 17), (22, 9999), (77, 9999)] o o_20 := Fr.tr fr_o fc_o_20 rfl
            have g32_13_o_20 : o_20.1 32 13 = o.1 32 13 := fc_o_20.1 32 13 rfl
            show T (b_X11_fall_129 o_20 p17 z8_21) _
            unfold b_X11_fall_129
            refine T_qNm (fun o1 e_o1 => ?_)
            have hB_o1 : BoxC o1 := by rw [e_o1]; exact Box.s2 hB_o_20
            have fr_o1 : Fr [(0, 16), (0, 17), (22, 9999), (77, 9999)] o o1 := by rw [e_o1]; exact Fr.s2 fr_o_20 rfl
            have g32_13_o1 : o1.1 32 13 = o_20.1 32 13 := by rw [e_o1]; rfl
            refine T_qB (t_J13_bitCount_95d88 (o1.2 0 16)) (fun r2 hc_r2 hp22 => ?_)
            replace hp22 : (inR r2) ∧ (r2 = PC (o1.2 0 16)) := hp22
            have hps_hp22 := hp22
            obtain ⟨hp22_0, hp22_1⟩ := hps_hp22
            replace hp22 := hid hp22
            refine T_some ?_
            show BoxC o1 ∧ (Fr [(0, 16), (0, 17), (22, 9999), (77, 9999)] o o1)
            exact ⟨hB_o1, fr_o1⟩
set_option maxRecDepth 20000 in
set_option maxHeartbeats 4000000 in
theorem t_X8_exists__4 (o : OO) (x1 : Int) (hB_o : BoxC o) (k0 : inR x1) : T (s_X8_exists__4 o x1) (fun v => ((v = 1 ∧ (0 ≤ x1 ∧ x1 < 4)) ∨ (v = 0 ∧ ¬ (0 ≤ x1 ∧ x1 < 4)))) := by
  have g4_0_o := bC_4_0 hB_o
  unfold s_X8_exists__4
  refine T_qLt ⟨by omega, by omega⟩ ⟨by decide, by decide⟩ (fun h1 => ?_) (fun h1 => ?_)
  ·
    unfold b_X8_exists__4_16
    unfold b_X8_exists__4_17
    refine T_qZ (Or.inl rfl) ?_
    refine T_some ?_
    show ((0 = 1 ∧ (0 ≤ x1 ∧ x1 < 4)) ∨ (0 = 0 ∧ ¬ (0 ≤ x1 ∧ x1 < 4)))
    exact (by omega)
  ·
    refine T_qLt ⟨by omega, by omega⟩ ⟨by omega, by omega⟩ (fun h2 => ?_) (fun h2 => ?_)
    ·
      unfold b_X8_exists__4_17
      refine T_qZ (Or.inr rfl) ?_
      refine T_some ?_
      show ((1 = 1 ∧ (0 ≤ x1 ∧ x1 < 4)) ∨ (1 = 0 ∧ ¬ (0 ≤ x1 ∧ x1 < 4)))
      exact (by omega)
    ·
      unfold b_X8_exists__4_16
      unfold b_X8_exists__4_17
      refine T_qZ (Or.inl rfl) ?_
      refine T_some ?_
      show ((0 = 1 ∧ (0 ≤ x1 ∧ x1 < 4)) ∨ (0 = 0 ∧ ¬ (0 ≤ x1 ∧ x1 < 4)))
      exact (by omega)
set_option maxRecDepth 20000 in
set_option maxHeartbeats 4000000 in
theorem t_X8_sizeOf__4 (o : OO) (x1 : Int) (hB_o : BoxC o) (k0 : 0 ≤ x1 ∧ x1 ≤ 5) : T (s_X8_sizeOf__4 o x1) (fun v => (v = o.1 5 x1.toNat) ∧ (-1 ≤ v ∧ v ≤ 40)) := by
  unfold s_X8_sizeOf__4
  refine T_qIn ⟨by omega, by omega⟩ ?_
  refine T_qNm (fun n2 e_n2 => ?_)
  have b_n2 : -1 ≤ n2 ∧ n2 ≤ 40 := by rw [e_n2]; exact bC_5 hB_o _
  refine T_some ?_
  show (n2 = o.1 5 x1.toNat) ∧ (-1 ≤ n2 ∧ n2 ≤ 40)
  exact ⟨(by omega), (by omega)⟩
set_option maxRecDepth 20000 in
set_option maxHeartbeats 4000000 in
theorem tl_X7_letterOf_2 (x0 : Int) (i_x1 : Int) (k0 : inR x0) (v0 : 0 ≤ i_x1 ∧ i_x1 ≤ 8) : T (loopW (fun s => l_X7_letterOf_2 x0 s) i_x1) (Sum.elim (fun r => (0 ≤ r ∧ r ≤ 7)) (fun _ => True)) := by
  refine T_loop (fun s => (0 ≤ s ∧ s ≤ 8)) (fun s => (8 - s).toNat) (by exact v0) (fun s hs => ?_)
  obtain ⟨x1, q_x1⟩ : ∃ q, q = s := ⟨_, rfl⟩
  subst q_x1
  replace hs : (0 ≤ x1 ∧ x1 ≤ 8) := hs
  have w0 := hs
  show T (l_X7_letterOf_2 x0 x1) _
  unfold l_X7_letterOf_2
  refine T_qLt ⟨by omega, by omega⟩ ⟨by decide, by decide⟩ (fun h1 => ?_) (fun h1 => ?_)
  ·
    refine T_qIn ⟨by omega, by omega⟩ ?_
    refine T_qNm (fun n2 e_n2 => ?_)
    have b_n2 : 0 ≤ n2 ∧ n2 ≤ 100 := by rw [e_n2]; exact lettersN_rng _
    refine T_qEq ⟨by omega, by omega⟩ ⟨by omega, by omega⟩ (fun h2 => ?_) (fun h2 => ?_)
    ·
      refine T_some ?_
      show (0 ≤ x1 ∧ x1 ≤ 7)
      exact (by omega)
    ·
      refine T_some ?_
      show ((0 ≤ (x1 + 1) ∧ (x1 + 1) ≤ 8)) ∧ (8 - (x1 + 1)).toNat < (8 - x1).toNat
      exact ⟨(by omega), by omega⟩
  ·
    refine T_some ?_
    show True
    exact trivial
set_option maxRecDepth 20000 in
set_option maxHeartbeats 4000000 in
theorem t_X7_letterOf (x0 : Int) (k0 : inR x0) : T (s_X7_letterOf x0) (fun v => (-9 ≤ v ∧ v ≤ 7) ∧ (v = -9 ∨ 0 ≤ v)) := by
  unfold s_X7_letterOf
  unfold e_X7_letterOf_2
  refine T_qB (tl_X7_letterOf_2 x0 0 (by omega) (by omega)) (fun r3 hc_r3 hp4 => ?_)
  rcases r3 with r3 | r3
  ·
    obtain ⟨x1_5, q_x1_5⟩ : ∃ q, q = r3 := ⟨_, rfl⟩
    subst q_x1_5
    replace hp4 : (0 ≤ x1_5 ∧ x1_5 ≤ 7) := hp4
    show T (b_X7_letterOf_17 x1_5) _
    unfold b_X7_letterOf_17
    refine T_some ?_
    show (-9 ≤ x1_5 ∧ x1_5 ≤ 7) ∧ (x1_5 = -9 ∨ 0 ≤ x1_5)
    exact ⟨(by omega), (by omega)⟩
  ·
    show T (b_X7_letterOf_25 ) _
    unfold b_X7_letterOf_25
    refine T_some ?_
    show (-9 ≤ (-9) ∧ (-9) ≤ 7) ∧ ((-9) = -9 ∨ 0 ≤ (-9))
    exact ⟨(by omega), (by omega)⟩
set_option maxRecDepth 20000 in
set_option maxHeartbeats 4000000 in
theorem t_X8_holds (o : OO) (x1 : Int) (x2 : Int) (hB_o : BoxC o) (k0 : 0 ≤ x1 ∧ x1 ≤ 5) (k1 : inR x2) : T (s_X8_holds o x1 x2) (fun v => ((v = 1 ∧ 0 ≤ x2 ∧ x2 < o.1 5 x1.toNat ∧ o.1 5 x1.toNat ≤ 40) ∨ (v = 0 ∧ ¬ (0 ≤ x2 ∧ x2 < o.1 5 x1.toNat)))) := by
  unfold s_X8_holds
  refine T_qLt ⟨by omega, by omega⟩ ⟨by decide, by decide⟩ (fun h1 => ?_) (fun h1 => ?_)
  ·
    unfold b_X8_holds_18
    unfold b_X8_holds_19
    refine T_qZ (Or.inl rfl) ?_
    refine T_some ?_
    show ((0 = 1 ∧ 0 ≤ x2 ∧ x2 < o.1 5 x1.toNat ∧ o.1 5 x1.toNat ≤ 40) ∨ (0 = 0 ∧ ¬ (0 ≤ x2 ∧ x2 < o.1 5 x1.toNat)))
    exact (by omega)
  ·
    refine T_qIn ⟨by omega, by omega⟩ ?_
    refine T_qNm (fun n2 e_n2 => ?_)
    have b_n2 : -1 ≤ n2 ∧ n2 ≤ 40 := by rw [e_n2]; exact bC_5 hB_o _
    refine T_qLt ⟨by omega, by omega⟩ ⟨by omega, by omega⟩ (fun h2 => ?_) (fun h2 => ?_)
    ·
      unfold b_X8_holds_19
      refine T_qZ (Or.inr rfl) ?_
      refine T_some ?_
      show ((1 = 1 ∧ 0 ≤ x2 ∧ x2 < o.1 5 x1.toNat ∧ o.1 5 x1.toNat ≤ 40) ∨ (1 = 0 ∧ ¬ (0 ≤ x2 ∧ x2 < o.1 5 x1.toNat)))
      exact (by omega)
    ·
      unfold b_X8_holds_18
      unfold b_X8_holds_19
      refine T_qZ (Or.inl rfl) ?_
      refine T_some ?_
      show ((0 = 1 ∧ 0 ≤ x2 ∧ x2 < o.1 5 x1.toNat ∧ o.1 5 x1.toNat ≤ 40) ∨ (0 = 0 ∧ ¬ (0 ≤ x2 ∧ x2 < o.1 5 x1.toNat)))
      exact (by omega)
set_option maxRecDepth 20000 in
set_option maxHeartbeats 4000000 in
theorem t_X7_isDigit (x0 : Int) (k0 : inR x0) : T (s_X7_isDigit x0) (fun v => ((v = 1 ∧ (48 ≤ x0 ∧ x0 ≤ 57)) ∨ (v = 0 ∧ ¬ (48 ≤ x0 ∧ x0 ≤ 57)))) := by
  unfold s_X7_isDigit
  refine T_qLt ⟨by omega, by omega⟩ ⟨by decide, by decide⟩ (fun h1 => ?_) (fun h1 => ?_)
  ·
    unfold b_X7_isDigit_16
    unfold b_X7_isDigit_17
    refine T_qZ (Or.inl rfl) ?_
    refine T_some ?_
    show ((0 = 1 ∧ (48 ≤ x0 ∧ x0 ≤ 57)) ∨ (0 = 0 ∧ ¬ (48 ≤ x0 ∧ x0 ≤ 57)))
    exact (by omega)
  ·
    refine T_qLt ⟨by decide, by decide⟩ ⟨by omega, by omega⟩ (fun h2 => ?_) (fun h2 => ?_)
    ·
      unfold b_X7_isDigit_16
      unfold b_X7_isDigit_17
      refine T_qZ (Or.inl rfl) ?_
      refine T_some ?_
      show ((0 = 1 ∧ (48 ≤ x0 ∧ x0 ≤ 57)) ∨ (0 = 0 ∧ ¬ (48 ≤ x0 ∧ x0 ≤ 57)))
      exact (by omega)
    ·
      unfold b_X7_isDigit_17
      refine T_qZ (Or.inr rfl) ?_
      refine T_some ?_
      show ((1 = 1 ∧ (48 ≤ x0 ∧ x0 ≤ 57)) ∨ (1 = 0 ∧ ¬ (48 ≤ x0 ∧ x0 ≤ 57)))
      exact (by omega)
set_option maxRecDepth 20000 in
set_option maxHeartbeats 4000000 in
theorem tl_X7_digitsAt_2 (o : OO) (x1 : Int) (x2 : Int) (i_x3 : Int) (hB_o : BoxC o) (k0 : 0 ≤ x1 ∧ x1 ≤ 5) (k1 : 0 ≤ x2 ∧ x2 ≤ 100) (v0 : 0 ≤ i_x3 ∧ i_x3 ≤ 4) (v1 : i_x3 = 0 ∨ x2 + i_x3 ≤ o.1 5 x1.toNat) (v2 : ∀ k : Int, x2 ≤ k → k < x2 + i_x3 → 48 ≤ o.1 6 (x1 * 40 + k).toNat ∧ o.1 6 (x1 * 40 + k).toNat ≤ 57) : T (loopW (fun s => l_X7_digitsAt_2 o x1 x2 s) i_x3) (fun r => (0 ≤ r ∧ r ≤ 4) ∧ (r = 0 ∨ x2 + r ≤ o.1 5 x1.toNat) ∧ (∀ k : Int, x2 ≤ k → k < x2 + r → 48 ≤ o.1 6 (x1 * 40 + k).toNat ∧ o.1 6 (x1 * 40 + k).toNat ≤ 57)) := by
  refine T_loop (fun s => (0 ≤ s ∧ s ≤ 4) ∧ (s = 0 ∨ x2 + s ≤ o.1 5 x1.toNat) ∧ (∀ k : Int, x2 ≤ k → k < x2 + s → 48 ≤ o.1 6 (x1 * 40 + k).toNat ∧ o.1 6 (x1 * 40 + k).toNat ≤ 57)) (fun s => (4 - s).toNat) (by exact ⟨v0, v1, v2⟩) (fun s hs => ?_)
  obtain ⟨x3, q_x3⟩ : ∃ q, q = s := ⟨_, rfl⟩
  subst q_x3
  replace hs : (0 ≤ x3 ∧ x3 ≤ 4) ∧ (x3 = 0 ∨ x2 + x3 ≤ o.1 5 x1.toNat) ∧ (∀ k : Int, x2 ≤ k → k < x2 + x3 → 48 ≤ o.1 6 (x1 * 40 + k).toNat ∧ o.1 6 (x1 * 40 + k).toNat ≤ 57) := hs
  obtain ⟨w0, w1, w2⟩ := hs
  show T (l_X7_digitsAt_2 o x1 x2 x3) _
  unfold l_X7_digitsAt_2
  refine T_qLt ⟨by omega, by omega⟩ ⟨by decide, by decide⟩ (fun h1 => ?_) (fun h1 => ?_)
  ·
    refine T_qB (t_X8_holds o x1 (x2 + x3) hB_o (by omega) (by omega)) (fun r1 hc_r1 hp2 => ?_)
    replace hp2 : ((r1 = 1 ∧ 0 ≤ (x2 + x3) ∧ (x2 + x3) < o.1 5 x1.toNat ∧ o.1 5 x1.toNat ≤ 40) ∨ (r1 = 0 ∧ ¬ (0 ≤ (x2 + x3) ∧ (x2 + x3) < o.1 5 x1.toNat))) := hp2
    refine T_qEq ⟨by omega, by omega⟩ ⟨by decide, by decide⟩ (fun h3 => ?_) (fun h3 => ?_)
    ·
      refine T_some ?_
      show (0 ≤ x3 ∧ x3 ≤ 4) ∧ (x3 = 0 ∨ x2 + x3 ≤ o.1 5 x1.toNat) ∧ (∀ k : Int, x2 ≤ k → k < x2 + x3 → 48 ≤ o.1 6 (x1 * 40 + k).toNat ∧ o.1 6 (x1 * 40 + k).toNat ≤ 57)
      exact ⟨(by omega), (by omega), (by first | assumption | skip; intro k q0 q1; first | exact absurd q1 (by omega) | exact (Classical.em (k = x2 + x3)).elim (fun e9 => by subst e9; omega) (fun e9 => w2 k q0 (by omega)) | omega)⟩
    ·
      refine T_qB (t_X8_at__4 o x1 (x2 + x3) hB_o (by omega)) (fun r3 hc_r3 hp4 => ?_)
      replace hp4 : (r3 = o.1 6 (x1 * 40 + (x2 + x3)).toNat) ∧ (inR r3) := hp4
      have hps_hp4 := hp4
      obtain ⟨hp4_0, hp4_1⟩ := hps_hp4
      replace hp4 := hid hp4
      refine T_qB (t_X7_isDigit r3 (by omega)) (fun r5 hc_r5 hp5 => ?_)
      replace hp5 : ((r5 = 1 ∧ (48 ≤ r3 ∧ r3 ≤ 57)) ∨ (r5 = 0 ∧ ¬ (48 ≤ r3 ∧ r3 ≤ 57))) := hp5
      refine T_qEq ⟨by omega, by omega⟩ ⟨by decide, by decide⟩ (fun h6 => ?_) (fun h6 => ?_)
      ·
        refine T_some ?_
        show (0 ≤ x3 ∧ x3 ≤ 4) ∧ (x3 = 0 ∨ x2 + x3 ≤ o.1 5 x1.toNat) ∧ (∀ k : Int, x2 ≤ k → k < x2 + x3 → 48 ≤ o.1 6 (x1 * 40 + k).toNat ∧ o.1 6 (x1 * 40 + k).toNat ≤ 57)
        exact ⟨(by omega), (by omega), (by first | assumption | skip; intro k q0 q1; first | exact absurd q1 (by omega) | exact (Classical.em (k = x2 + x3)).elim (fun e9 => by subst e9; omega) (fun e9 => w2 k q0 (by omega)) | omega)⟩
      ·
        refine T_some ?_
        show ((0 ≤ (x3 + 1) ∧ (x3 + 1) ≤ 4) ∧ ((x3 + 1) = 0 ∨ x2 + (x3 + 1) ≤ o.1 5 x1.toNat) ∧ (∀ k : Int, x2 ≤ k → k < x2 + (x3 + 1) → 48 ≤ o.1 6 (x1 * 40 + k).toNat ∧ o.1 6 (x1 * 40 + k).toNat ≤ 57)) ∧ (4 - (x3 + 1)).toNat < (4 - x3).toNat
        exact ⟨⟨(by omega), (by omega), (by first | assumption | skip; intro k q0 q1; first | exact absurd q1 (by omega) | exact (Classical.em (k = x2 + x3)).elim (fun e9 => by subst e9; omega) (fun e9 => w2 k q0 (by omega)) | omega)⟩, by omega⟩
  ·
    refine T_some ?_
    show (0 ≤ x3 ∧ x3 ≤ 4) ∧ (x3 = 0 ∨ x2 + x3 ≤ o.1 5 x1.toNat) ∧ (∀ k : Int, x2 ≤ k → k < x2 + x3 → 48 ≤ o.1 6 (x1 * 40 + k).toNat ∧ o.1 6 (x1 * 40 + k).toNat ≤ 57)
    exact ⟨(by omega), (by omega), (by first | assumption | skip; intro k q0 q1; first | exact absurd q1 (by omega) | exact (Classical.em (k = x2 + x3)).elim (fun e9 => by subst e9; omega) (fun e9 => w2 k q0 (by omega)) | omega)⟩
set_option maxRecDepth 20000 in
set_option maxHeartbeats 4000000 in
theorem t_X7_digitsAt (o : OO) (x1 : Int) (x2 : Int) (hB_o : BoxC o) (k0 : 0 ≤ x1 ∧ x1 ≤ 5) (k1 : 0 ≤ x2 ∧ x2 ≤ 100) : T (s_X7_digitsAt o x1 x2) (fun v => (0 ≤ v ∧ v ≤ 4) ∧ (v = 0 ∨ x2 + v ≤ o.1 5 x1.toNat) ∧ (∀ k : Int, x2 ≤ k → k < x2 + v → 48 ≤ o.1 6 (x1 * 40 + k).toNat ∧ o.1 6 (x1 * 40 + k).toNat ≤ 57)) := by
  unfold s_X7_digitsAt
  unfold e_X7_digitsAt_2
  refine T_qB (tl_X7_digitsAt_2 o x1 x2 0 hB_o (by omega) (by omega) (by omega) (by omega) (by first | assumption | skip; intro k q0 q1; first | exact absurd q1 (by omega) | exact (Classical.em (k = x2 + x3)).elim (fun e9 => by subst e9; omega) (fun e9 => w2 k q0 (by omega)) | omega)) (fun r7 hc_r7 hp8 => ?_)
  obtain ⟨x3_9, q_x3_9⟩ : ∃ q, q = r7 := ⟨_, rfl⟩
  subst q_x3_9
  replace hp8 : (0 ≤ x3_9 ∧ x3_9 ≤ 4) ∧ (x3_9 = 0 ∨ x2 + x3_9 ≤ o.1 5 x1.toNat) ∧ (∀ k : Int, x2 ≤ k → k < x2 + x3_9 → 48 ≤ o.1 6 (x1 * 40 + k).toNat ∧ o.1 6 (x1 * 40 + k).toNat ≤ 57) := hp8
  have hps_hp8 := hp8
  obtain ⟨hp8_0, hp8_1, hp8_2⟩ := hps_hp8
  replace hp8 := hid hp8
  show T (b_X7_digitsAt_38 o x3_9) _
  unfold b_X7_digitsAt_38
  refine T_some ?_
  show (0 ≤ x3_9 ∧ x3_9 ≤ 4) ∧ (x3_9 = 0 ∨ x2 + x3_9 ≤ o.1 5 x1.toNat) ∧ (∀ k : Int, x2 ≤ k → k < x2 + x3_9 → 48 ≤ o.1 6 (x1 * 40 + k).toNat ∧ o.1 6 (x1 * 40 + k).toNat ≤ 57)
  exact ⟨(by omega), (by omega), (by first | assumption | skip; intro k q0 q1; first | exact absurd q1 (by omega) | exact (Classical.em (k = x2 + x3)).elim (fun e9 => by subst e9; omega) (fun e9 => w2 k q0 (by omega)) | omega)⟩
set_option maxRecDepth 20000 in
set_option maxHeartbeats 4000000 in
theorem tl_X7_firstFault_2 (o : OO) (x1 : Int) (i_x2 : Int) (hB_o : BoxC o) (k0 : 0 ≤ x1 ∧ x1 ≤ 5) (v0 : 0 ≤ i_x2 ∧ i_x2 ≤ 40) : T (loopW (fun s => l_X7_firstFault_2 o x1 s) i_x2) (Sum.elim (fun r => (0 ≤ r ∧ r ≤ 41)) (Sum.elim (fun r => (0 ≤ r ∧ r ≤ 41)) (fun _ => True))) := by
  refine T_loop (fun s => (0 ≤ s ∧ s ≤ 40)) (fun s => (40 - s).toNat) (by exact v0) (fun s hs => ?_)
  obtain ⟨x2, q_x2⟩ : ∃ q, q = s := ⟨_, rfl⟩
  subst q_x2
  replace hs : (0 ≤ x2 ∧ x2 ≤ 40) := hs
  have w0 := hs
  show T (l_X7_firstFault_2 o x1 x2) _
  unfold l_X7_firstFault_2
  refine T_qB (t_X8_sizeOf__4 o x1 hB_o (by omega)) (fun r1 hc_r1 hp1 => ?_)
  replace hp1 : (r1 = o.1 5 x1.toNat) ∧ (-1 ≤ r1 ∧ r1 ≤ 40) := hp1
  have hps_hp1 := hp1
  obtain ⟨hp1_0, hp1_1⟩ := hps_hp1
  replace hp1 := hid hp1
  refine T_qLt ⟨by omega, by omega⟩ ⟨by omega, by omega⟩ (fun h2 => ?_) (fun h2 => ?_)
  ·
    refine T_qB (t_X8_at__4 o x1 x2 hB_o (by omega)) (fun r3 hc_r3 hp3 => ?_)
    replace hp3 : (r3 = o.1 6 (x1 * 40 + x2).toNat) ∧ (inR r3) := hp3
    have hps_hp3 := hp3
    obtain ⟨hp3_0, hp3_1⟩ := hps_hp3
    replace hp3 := hid hp3
    refine T_qEq ⟨by omega, by omega⟩ ⟨by decide, by decide⟩ (fun h4 => ?_) (fun h4 => ?_)
    ·
      refine T_some ?_
      show ((0 ≤ (x2 + 1) ∧ (x2 + 1) ≤ 40)) ∧ (40 - (x2 + 1)).toNat < (40 - x2).toNat
      exact ⟨(by omega), by omega⟩
    ·
      refine T_qB (t_X7_letterOf r3 (by omega)) (fun r5 hc_r5 hp5 => ?_)
      replace hp5 : (-9 ≤ r5 ∧ r5 ≤ 7) ∧ (r5 = -9 ∨ 0 ≤ r5) := hp5
      have hps_hp5 := hp5
      obtain ⟨hp5_0, hp5_1⟩ := hps_hp5
      replace hp5 := hid hp5
      refine T_qEq ⟨by omega, by omega⟩ ⟨by decide, by decide⟩ (fun h6 => ?_) (fun h6 => ?_)
      ·
        refine T_some ?_
        show (0 ≤ (x2 + 1) ∧ (x2 + 1) ≤ 41)
        exact (by omega)
      ·
        refine T_qB (t_X7_digitsAt o x1 (x2 + 1) hB_o (by omega) (by omega)) (fun r7 hc_r7 hp7 => ?_)
        replace hp7 : (0 ≤ r7 ∧ r7 ≤ 4) ∧ (r7 = 0 ∨ (x2 + 1) + r7 ≤ o.1 5 x1.toNat) ∧ (∀ k : Int, (x2 + 1) ≤ k → k < (x2 + 1) + r7 → 48 ≤ o.1 6 (x1 * 40 + k).toNat ∧ o.1 6 (x1 * 40 + k).toNat ≤ 57) := hp7
        have hps_hp7 := hp7
        obtain ⟨hp7_0, hp7_1, hp7_2⟩ := hps_hp7
        replace hp7 := hid hp7
        refine T_qEq ⟨by omega, by omega⟩ ⟨by decide, by decide⟩ (fun h8 => ?_) (fun h8 => ?_)
        ·
          refine T_some ?_
          show (0 ≤ (x2 + 1) ∧ (x2 + 1) ≤ 41)
          exact (by omega)
        ·
          refine T_qNm (fun n9 e_n9 => ?_)
          refine T_some ?_
          show ((0 ≤ n9 ∧ n9 ≤ 40)) ∧ (40 - n9).toNat < (40 - x2).toNat
          exact ⟨(by omega), by omega⟩
  ·
    refine T_some ?_
    show True
    exact trivial
set_option maxRecDepth 20000 in
set_option maxHeartbeats 4000000 in
theorem t_X7_firstFault (o : OO) (x1 : Int) (hB_o : BoxC o) (k0 : 0 ≤ x1 ∧ x1 ≤ 5) : T (s_X7_firstFault o x1) (fun v => (-9 ≤ v ∧ v ≤ 41)) := by
  unfold s_X7_firstFault
  unfold e_X7_firstFault_2
  refine T_qB (tl_X7_firstFault_2 o x1 0 hB_o (by omega) (by omega)) (fun r9 hc_r9 hp10 => ?_)
  rcases r9 with r9 | r9 | r9
  ·
    obtain ⟨x2_11, q_x2_11⟩ : ∃ q, q = r9 := ⟨_, rfl⟩
    subst q_x2_11
    replace hp10 : (0 ≤ x2_11 ∧ x2_11 ≤ 41) := hp10
    show T (b_X7_firstFault_39 o x2_11) _
    unfold b_X7_firstFault_39
    refine T_some ?_
    show (-9 ≤ (x2_11 - 1) ∧ (x2_11 - 1) ≤ 41)
    exact (by omega)
  ·
    obtain ⟨x2_12, q_x2_12⟩ : ∃ q, q = r9 := ⟨_, rfl⟩
    subst q_x2_12
    replace hp10 : (0 ≤ x2_12 ∧ x2_12 ≤ 41) := hp10
    show T (b_X7_firstFault_56 o x2_12) _
    unfold b_X7_firstFault_56
    refine T_some ?_
    show (-9 ≤ x2_12 ∧ x2_12 ≤ 41)
    exact (by omega)
  ·
    show T (b_X7_firstFault_66 o) _
    unfold b_X7_firstFault_66
    refine T_some ?_
    show (-9 ≤ (-9) ∧ (-9) ≤ 41)
    exact (by omega)
set_option maxRecDepth 20000 in
set_option maxHeartbeats 4000000 in
theorem t_X11_fault (o : OO) (x1 : Int) (hB_o : BoxC o) (k0 : inR x1) : T (s_X11_fault o x1) (fun v => BoxC v.2 ∧ (Fr [(0, 17), (77, 9999)] o v.2)) := by
  have fr_o : Fr [(0, 17), (77, 9999)] o o := Fr.rf
  unfold s_X11_fault
  refine T_qB (t_X8_exists__4 o x1 hB_o (by omega)) (fun r1 hc_r1 hp1 => ?_)
  replace hp1 : ((r1 = 1 ∧ (0 ≤ x1 ∧ x1 < 4)) ∨ (r1 = 0 ∧ ¬ (0 ≤ x1 ∧ x1 < 4))) := hp1
  refine T_qEq ⟨by omega, by omega⟩ ⟨by decide, by decide⟩ (fun h2 => ?_) (fun h2 => ?_)
  ·
    refine T_some ?_
    show BoxC o ∧ (Fr [(0, 17), (77, 9999)] o o)
    exact ⟨hB_o, fr_o⟩
  ·
    refine T_qB (t_X8_isThere__4 o x1 hB_o (by omega)) (fun r3 hc_r3 hp3 => ?_)
    replace hp3 : ((r3 = 1 ∧ (¬ o.1 5 x1.toNat = -1)) ∨ (r3 = 0 ∧ ¬ (¬ o.1 5 x1.toNat = -1))) := hp3
    refine T_qEq ⟨by omega, by omega⟩ ⟨by decide, by decide⟩ (fun h4 => ?_) (fun h4 => ?_)
    ·
      refine T_qB2 (t_X11_found o 1 hB_o (by omega)) (fun r7 o9 hc_r7 hp5 => ?_)
      replace hp5 : BoxC o9 ∧ (Fr [(0, 17), (77, 9999)] o o9) ∧ (r7 = -3) := hp5
      obtain ⟨hB_o9, fc_o9, hp5⟩ := hp5
      have fr_o9 : Fr [(0, 17), (77, 9999)] o o9 := Fr.tr fr_o fc_o9 rfl
      refine T_some ?_
      show BoxC o9 ∧ (Fr [(0, 17), (77, 9999)] o o9)
      exact ⟨hB_o9, fr_o9⟩
    ·
      refine T_qB (t_X7_firstFault o x1 hB_o (by omega)) (fun r5 hc_r5 hp6 => ?_)
      replace hp6 : (-9 ≤ r5 ∧ r5 ≤ 41) := hp6
      refine T_some ?_
      show BoxC o ∧ (Fr [(0, 17), (77, 9999)] o o)
      exact ⟨hB_o, fr_o⟩
set_option maxRecDepth 20000 in
set_option maxHeartbeats 4000000 in
theorem t_X11_finding (o : OO) (hB_o : BoxC o) : T (s_X11_finding o) (fun _ => True) := by
  have g0_17_o := bC_0_17 hB_o
  unfold s_X11_finding
  refine T_some ?_
  show True
  exact trivial
set_option maxRecDepth 20000 in
set_option maxHeartbeats 4000000 in
theorem t_X11_findings (o : OO) (x1 : Int) (hB_o : BoxC o) (k0 : inR x1) : T (s_X11_findings o x1) (fun _ => True) := by
  unfold s_X11_findings
  refine T_qLt ⟨by omega, by omega⟩ ⟨by decide, by decide⟩ (fun h1 => ?_) (fun h1 => ?_)
  ·
    unfold b_X11_findings_10
    refine T_some ?_
    show True
    exact trivial
  ·
    refine T_qLt ⟨by decide, by decide⟩ ⟨by omega, by omega⟩ (fun h2 => ?_) (fun h2 => ?_)
    ·
      unfold b_X11_findings_10
      refine T_some ?_
      show True
      exact trivial
    ·
      refine T_qIn ⟨by omega, by omega⟩ ?_
      refine T_qNm (fun n2 e_n2 => ?_)
      refine T_some ?_
      show True
      exact trivial
set_option maxRecDepth 20000 in
set_option maxHeartbeats 4000000 in
theorem t_X7_isLetter (x0 : Int) (k0 : inR x0) : T (s_X7_isLetter x0) (fun v => ((v = 1 ∧ (0 ≤ x0 ∧ x0 < 8)) ∨ (v = 0 ∧ ¬ (0 ≤ x0 ∧ x0 < 8)))) := by
  unfold s_X7_isLetter
  refine T_qLt ⟨by omega, by omega⟩ ⟨by decide, by decide⟩ (fun h1 => ?_) (fun h1 => ?_)
  ·
    unfold b_X7_isLetter_14
    unfold b_X7_isLetter_15
    refine T_qZ (Or.inl rfl) ?_
    refine T_some ?_
    show ((0 = 1 ∧ (0 ≤ x0 ∧ x0 < 8)) ∨ (0 = 0 ∧ ¬ (0 ≤ x0 ∧ x0 < 8)))
    exact (by omega)
  ·
    refine T_qLt ⟨by omega, by omega⟩ ⟨by decide, by decide⟩ (fun h2 => ?_) (fun h2 => ?_)
    ·
      unfold b_X7_isLetter_15
      refine T_qZ (Or.inr rfl) ?_
      refine T_some ?_
      show ((1 = 1 ∧ (0 ≤ x0 ∧ x0 < 8)) ∨ (1 = 0 ∧ ¬ (0 ≤ x0 ∧ x0 < 8)))
      exact (by omega)
    ·
      unfold b_X7_isLetter_14
      unfold b_X7_isLetter_15
      refine T_qZ (Or.inl rfl) ?_
      refine T_some ?_
      show ((0 = 1 ∧ (0 ≤ x0 ∧ x0 < 8)) ∨ (0 = 0 ∧ ¬ (0 ≤ x0 ∧ x0 < 8)))
      exact (by omega)
set_option maxRecDepth 20000 in
set_option maxHeartbeats 4000000 in
theorem t_X11_isDay (x0 : Int) (k0 : inR x0) : T (s_X11_isDay x0) (fun v => ((v = 1 ∧ (0 ≤ x0 ∧ x0 ≤ 999)) ∨ (v = 0 ∧ ¬ (0 ≤ x0 ∧ x0 ≤ 999)))) := by
  unfold s_X11_isDay
  refine T_qLt ⟨by omega, by omega⟩ ⟨by decide, by decide⟩ (fun h1 => ?_) (fun h1 => ?_)
  ·
    unfold b_X11_isDay_15
    unfold b_X11_isDay_16
    refine T_qZ (Or.inl rfl) ?_
    refine T_some ?_
    show ((0 = 1 ∧ (0 ≤ x0 ∧ x0 ≤ 999)) ∨ (0 = 0 ∧ ¬ (0 ≤ x0 ∧ x0 ≤ 999)))
    exact (by omega)
  ·
    refine T_qLt ⟨by decide, by decide⟩ ⟨by omega, by omega⟩ (fun h2 => ?_) (fun h2 => ?_)
    ·
      unfold b_X11_isDay_15
      unfold b_X11_isDay_16
      refine T_qZ (Or.inl rfl) ?_
      refine T_some ?_
      show ((0 = 1 ∧ (0 ≤ x0 ∧ x0 ≤ 999)) ∨ (0 = 0 ∧ ¬ (0 ≤ x0 ∧ x0 ≤ 999)))
      exact (by omega)
    ·
      unfold b_X11_isDay_16
      refine T_qZ (Or.inr rfl) ?_
      refine T_some ?_
      show ((1 = 1 ∧ (0 ≤ x0 ∧ x0 ≤ 999)) ∨ (1 = 0 ∧ ¬ (0 ≤ x0 ∧ x0 ≤ 999)))
      exact (by omega)
set_option maxRecDepth 20000 in
set_option maxHeartbeats 4000000 in
theorem t_X11_force (o : OO) (x1 : Int) (x2 : Int) (x3 : Int) (hB_o : BoxC o) (k0 : inR x1) (k1 : inR x2) (k2 : inR x3) : T (s_X11_force o x1 x2 x3) (fun _ => True) := by
  unfold s_X11_force
  refine T_qB (t_X7_isLetter x1 (by omega)) (fun r1 hc_r1 hp1 => ?_)
  replace hp1 : ((r1 = 1 ∧ (0 ≤ x1 ∧ x1 < 8)) ∨ (r1 = 0 ∧ ¬ (0 ≤ x1 ∧ x1 < 8))) := hp1
  refine T_qEq ⟨by omega, by omega⟩ ⟨by decide, by decide⟩ (fun h2 => ?_) (fun h2 => ?_)
  ·
    unfold b_X11_force_21
    refine T_some ?_
    show True
    exact trivial
  ·
    refine T_qB (t_X11_isDay x2 (by omega)) (fun r3 hc_r3 hp3 => ?_)
    replace hp3 : ((r3 = 1 ∧ (0 ≤ x2 ∧ x2 ≤ 999)) ∨ (r3 = 0 ∧ ¬ (0 ≤ x2 ∧ x2 ≤ 999))) := hp3
    refine T_qEq ⟨by omega, by omega⟩ ⟨by decide, by decide⟩ (fun h4 => ?_) (fun h4 => ?_)
    ·
      unfold b_X11_force_21
      refine T_some ?_
      show True
      exact trivial
    ·
      refine T_qB (t_X11_isDay x3 (by omega)) (fun r5 hc_r5 hp5 => ?_)
      replace hp5 : ((r5 = 1 ∧ (0 ≤ x3 ∧ x3 ≤ 999)) ∨ (r5 = 0 ∧ ¬ (0 ≤ x3 ∧ x3 ≤ 999))) := hp5
      refine T_qEq ⟨by omega, by omega⟩ ⟨by decide, by decide⟩ (fun h6 => ?_) (fun h6 => ?_)
      ·
        unfold b_X11_force_21
        refine T_some ?_
        show True
        exact trivial
      ·
        refine T_qB (t_X7_valueFor o x1 x2 x3 hB_o (by omega) (by omega) (by omega)) (fun r7 hc_r7 hp7 => ?_)
        replace hp7 : (0 ≤ r7 ∧ r7 ≤ 9999) := hp7
        refine T_some ?_
        show True
        exact trivial
set_option maxRecDepth 20000 in
set_option maxHeartbeats 4000000 in
theorem t_X4_add (o : OO) (x1 : Int) (x2 : Int) (x3 : Int) (hB_o : BoxC o) (k0 : 0 ≤ x1 ∧ x1 ≤ 6) (k1 : 0 ≤ x2 ∧ x2 ≤ 999) (k2 : -9 ≤ x3 ∧ x3 ≤ 23) (k3 : o.1 32 13 ≤ 23) : T (s_X4_add o x1 x2 x3) (fun v => BoxC v.2 ∧ (Fr [(32, 13), (33, 9999), (34, 9999), (35, 9999), (40, 9999)] o v.2) ∧ (v.1 = o.1 32 13) ∧ (v.2.1 32 13 = o.1 32 13 + 1)) := by
  have fr_o : Fr [(32, 13), (33, 9999), (34, 9999), (35, 9999), (40, 9999)] o o := Fr.rf
  have g32_13_o := bC_32_13 hB_o
  unfold s_X4_add
  refine T_qNm (fun o1 e_o1 => ?_)
  have hB_o1 : BoxC o1 := by rw [e_o1]; exact Box.s1 hB_o (show 0 ≤ ((o.1 32 13) + 1) ∧ ((o.1 32 13) + 1) ≤ 24 from ⟨by omega, by omega⟩)
  have fr_o1 : Fr [(32, 13), (33, 9999), (34, 9999), (35, 9999), (40, 9999)] o o1 := by rw [e_o1]; exact Fr.s1 fr_o rfl
  have g32_13_o1 : o1.1 32 13 = ((o.1 32 13) + 1) := by rw [e_o1]; rfl
  refine T_qIn ⟨by omega, by omega⟩ ?_
  refine T_qNm (fun o3 e_o3 => ?_)
  have hB_o3 : BoxC o3 := by rw [e_o3]; exact Box.s1 hB_o1 (show 0 ≤ x1 ∧ x1 ≤ 6 from ⟨by omega, by omega⟩)
  have fr_o3 : Fr [(32, 13), (33, 9999), (34, 9999), (35, 9999), (40, 9999)] o o3 := by rw [e_o3]; exact Fr.s1 fr_o1 rfl
  have g32_13_o3 : o3.1 32 13 = o1.1 32 13 := by rw [e_o3]; rfl
  refine T_qIn ⟨by omega, by omega⟩ ?_
  refine T_qNm (fun o5 e_o5 => ?_)
  have hB_o5 : BoxC o5 := by rw [e_o5]; exact Box.s1 hB_o3 (show 0 ≤ x2 ∧ x2 ≤ 999 from ⟨by omega, by omega⟩)
  have fr_o5 : Fr [(32, 13), (33, 9999), (34, 9999), (35, 9999), (40, 9999)] o o5 := by rw [e_o5]; exact Fr.s1 fr_o3 rfl
  have g32_13_o5 : o5.1 32 13 = o3.1 32 13 := by rw [e_o5]; rfl
  refine T_qIn ⟨by omega, by omega⟩ ?_
  refine T_qNm (fun o7 e_o7 => ?_)
  have hB_o7 : BoxC o7 := by rw [e_o7]; exact Box.s1 hB_o5 (show -9 ≤ x3 ∧ x3 ≤ 23 from ⟨by omega, by omega⟩)
  have fr_o7 : Fr [(32, 13), (33, 9999), (34, 9999), (35, 9999), (40, 9999)] o o7 := by rw [e_o7]; exact Fr.s1 fr_o5 rfl
  have g32_13_o7 : o7.1 32 13 = o5.1 32 13 := by rw [e_o7]; rfl
  refine T_qIn ⟨by omega, by omega⟩ ?_
  refine T_qNm (fun o9 e_o9 => ?_)
  have hB_o9 : BoxC o9 := by rw [e_o9]; exact Box.s1 hB_o7 (show -9 ≤ (-9) ∧ (-9) ≤ 999 from ⟨by omega, by omega⟩)
  have fr_o9 : Fr [(32, 13), (33, 9999), (34, 9999), (35, 9999), (40, 9999)] o o9 := by rw [e_o9]; exact Fr.s1 fr_o7 rfl
  have g32_13_o9 : o9.1 32 13 = o7.1 32 13 := by rw [e_o9]; rfl
  refine T_some ?_
  show BoxC o9 ∧ (Fr [(32, 13), (33, 9999), (34, 9999), (35, 9999), (40, 9999)] o o9) ∧ ((o.1 32 13) = o.1 32 13) ∧ (o9.1 32 13 = o.1 32 13 + 1)
  exact ⟨hB_o9, fr_o9, (by omega), (by omega)⟩
set_option maxRecDepth 20000 in
set_option maxHeartbeats 4000000 in
theorem t_X4_setGrant (o : OO) (x1 : Int) (x2 : Int) (x3 : Int) (hB_o : BoxC o) (k0 : 0 ≤ x1 ∧ x1 ≤ 23) (k1 : 1 ≤ x2 ∧ x2 ≤ 10) (k2 : 0 ≤ x3 ∧ x3 ≤ 999) : T (s_X4_setGrant o x1 x2 x3) (fun v => BoxC v ∧ (Fr [(41, 9999), (43, 9999)] o v)) := by
  have fr_o : Fr [(41, 9999), (43, 9999)] o o := Fr.rf
  unfold s_X4_setGrant
  refine T_qIn ⟨by omega, by omega⟩ ?_
  refine T_qNm (fun o2 e_o2 => ?_)
  have hB_o2 : BoxC o2 := by rw [e_o2]; exact Box.s1 hB_o (show 0 ≤ x2 ∧ x2 ≤ 10000000 from ⟨by omega, by omega⟩)
  have fr_o2 : Fr [(41, 9999), (43, 9999)] o o2 := by rw [e_o2]; exact Fr.s1 fr_o rfl
  refine T_qIn ⟨by omega, by omega⟩ ?_
  refine T_qNm (fun o4 e_o4 => ?_)
  have hB_o4 : BoxC o4 := by rw [e_o4]; exact Box.s1 hB_o2 (show 0 ≤ x3 ∧ x3 ≤ 999 from ⟨by omega, by omega⟩)
  have fr_o4 : Fr [(41, 9999), (43, 9999)] o o4 := by rw [e_o4]; exact Fr.s1 fr_o2 rfl
  refine T_some ?_
  show BoxC o4 ∧ (Fr [(41, 9999), (43, 9999)] o o4)
  exact ⟨hB_o4, fr_o4⟩
set_option maxRecDepth 20000 in
set_option maxHeartbeats 4000000 in
theorem t_X11_grant (o : OO) (x1 : Int) (x2 : Int) (hB_o : BoxC o) (k0 : inR x1) (k1 : inR x2) : T (s_X11_grant o x1 x2) (fun v => BoxC v.2 ∧ (Fr [(32, 13), (33, 9999), (34, 9999), (35, 9999), (40, 9999), (41, 9999), (43, 9999)] o v.2)) := by
  have fr_o : Fr [(32, 13), (33, 9999), (34, 9999), (35, 9999), (40, 9999), (41, 9999), (43, 9999)] o o := Fr.rf
  have g0_13_o := bC_0_13 hB_o
  have g32_13_o := bC_32_13 hB_o
  unfold s_X11_grant
  refine T_qLt ⟨by omega, by omega⟩ ⟨by decide, by decide⟩ (fun h1 => ?_) (fun h1 => ?_)
  ·
    unfold b_X11_grant_18
    refine T_some ?_
    show BoxC o ∧ (Fr [(32, 13), (33, 9999), (34, 9999), (35, 9999), (40, 9999), (41, 9999), (43, 9999)] o o)
    exact ⟨hB_o, fr_o⟩
  ·
    refine T_qLt ⟨by decide, by decide⟩ ⟨by omega, by omega⟩ (fun h2 => ?_) (fun h2 => ?_)
    ·
      unfold b_X11_grant_18
      refine T_some ?_
      show BoxC o ∧ (Fr [(32, 13), (33, 9999), (34, 9999), (35, 9999), (40, 9999), (41, 9999), (43, 9999)] o o)
      exact ⟨hB_o, fr_o⟩
    ·
      refine T_qB (t_X11_isDay x2 (by omega)) (fun r1 hc_r1 hp3 => ?_)
      replace hp3 : ((r1 = 1 ∧ (0 ≤ x2 ∧ x2 ≤ 999)) ∨ (r1 = 0 ∧ ¬ (0 ≤ x2 ∧ x2 ≤ 999))) := hp3
      refine T_qEq ⟨by omega, by omega⟩ ⟨by decide, by decide⟩ (fun h4 => ?_) (fun h4 => ?_)
      ·
        unfold b_X11_grant_18
        refine T_some ?_
        show BoxC o ∧ (Fr [(32, 13), (33, 9999), (34, 9999), (35, 9999), (40, 9999), (41, 9999), (43, 9999)] o o)
        exact ⟨hB_o, fr_o⟩
      ·
        refine T_qB (t_X4_number o hB_o) (fun r3 hc_r3 hp5 => ?_)
        replace hp5 : (r3 = o.1 32 13) := hp5
        refine T_qLt ⟨by omega, by omega⟩ ⟨by decide, by decide⟩ (fun h6 => ?_) (fun h6 => ?_)
        ·
          refine T_qB2 (t_X4_add o 5 (o.1 0 13) (-9) hB_o (by omega) (by omega) (by omega) (by omega)) (fun r5 o7 hc_r5 hp7 => ?_)
          replace hp7 : BoxC o7 ∧ (Fr [(32, 13), (33, 9999), (34, 9999), (35, 9999), (40, 9999)] o o7) ∧ (r5 = o.1 32 13) ∧ (o7.1 32 13 = o.1 32 13 + 1) := hp7
          obtain ⟨hB_o7, fc_o7, hp7⟩ := hp7
          have fr_o7 : Fr [(32, 13), (33, 9999), (34, 9999), (35, 9999), (40, 9999), (41, 9999), (43, 9999)] o o7 := Fr.tr fr_o fc_o7 rfl
          have g0_13_o7 : o7.1 0 13 = o.1 0 13 := fc_o7.1 0 13 rfl
          have g32_13_o7 := bC_32_13 hB_o7
          refine T_qB (t_X4_setGrant o7 r5 x1 x2 hB_o7 (by omega) (by omega) (by omega)) (fun o10 hc_o10 hp8 => ?_)
          replace hp8 : BoxC o10 ∧ (Fr [(41, 9999), (43, 9999)] o7 o10) := hp8
          obtain ⟨hB_o10, fc_o10⟩ := hp8
          have fr_o10 : Fr [(32, 13), (33, 9999), (34, 9999), (35, 9999), (40, 9999), (41, 9999), (43, 9999)] o o10 := Fr.tr fr_o7 fc_o10 rfl
          have g0_13_o10 : o10.1 0 13 = o7.1 0 13 := fc_o10.1 0 13 rfl
          have g32_13_o10 : o10.1 32 13 = o7.1 32 13 := fc_o10.1 32 13 rfl
          refine T_some ?_
          show BoxC o10 ∧ (Fr [(32, 13), (33, 9999), (34, 9999), (35, 9999), (40, 9999), (41, 9999), (43, 9999)] o o10)
          exact ⟨hB_o10, fr_o10⟩
        ·
          refine T_some ?_
          show BoxC o ∧ (Fr [(32, 13), (33, 9999), (34, 9999), (35, 9999), (40, 9999), (41, 9999), (43, 9999)] o o)
          exact ⟨hB_o, fr_o⟩
set_option maxRecDepth 20000 in
set_option maxHeartbeats 4000000 in
theorem t_X4_dateOf (o : OO) (x1 : Int) (hB_o : BoxC o) (k0 : 0 ≤ x1 ∧ x1 ≤ 23) : T (s_X4_dateOf o x1) (fun v => (0 ≤ v ∧ v ≤ 999)) := by
  unfold s_X4_dateOf
  refine T_qIn ⟨by omega, by omega⟩ ?_
  refine T_qNm (fun n2 e_n2 => ?_)
  have b_n2 : 0 ≤ n2 ∧ n2 ≤ 999 := by rw [e_n2]; exact bC_43 hB_o _
  refine T_some ?_
  show (0 ≤ n2 ∧ n2 ≤ 999)
  exact (by omega)
set_option maxRecDepth 20000 in
set_option maxHeartbeats 4000000 in
theorem t_X4_amountOf (o : OO) (x1 : Int) (hB_o : BoxC o) (k0 : 0 ≤ x1 ∧ x1 ≤ 23) : T (s_X4_amountOf o x1) (fun v => (0 ≤ v ∧ v ≤ 10000000)) := by
  unfold s_X4_amountOf
  refine T_qIn ⟨by omega, by omega⟩ ?_
  refine T_qNm (fun n2 e_n2 => ?_)
  have b_n2 : 0 ≤ n2 ∧ n2 ≤ 10000000 := by rw [e_n2]; exact bC_41 hB_o _
  refine T_some ?_
  show (0 ≤ n2 ∧ n2 ≤ 10000000)
  exact (by omega)
set_option maxRecDepth 20000 in
set_option maxHeartbeats 4000000 in
theorem t_X11_grants (o : OO) (x1 : Int) (x2 : Int) (hB_o : BoxC o) (k0 : inR x1) (k1 : inR x2) : T (s_X11_grants o x1 x2) (fun v => BoxC v.2 ∧ (Fr [(0, 14), (0, 15), (0, 17), (77, 9999)] o v.2)) := by
  have fr_o : Fr [(0, 14), (0, 15), (0, 17), (77, 9999)] o o := Fr.rf
  have g66_0_o := bC_66_0 hB_o
  have g66_1_o := bC_66_1 hB_o
  have g0_13_o := bC_0_13 hB_o
  have g32_13_o := bC_32_13 hB_o
  unfold s_X11_grants
  refine T_qB (t_X4_exists o x1 hB_o (by omega)) (fun r15 hc_r15 hp1 => ?_)
  replace hp1 : ((r15 = 1 ∧ (0 ≤ x1 ∧ x1 < o.1 32 13)) ∨ (r15 = 0 ∧ ¬ (0 ≤ x1 ∧ x1 < o.1 32 13))) := hp1
  refine T_qEq ⟨by omega, by omega⟩ ⟨by decide, by decide⟩ (fun h2 => ?_) (fun h2 => ?_)
  ·
    unfold b_X11_grants_22
    refine T_some ?_
    show BoxC o ∧ (Fr [(0, 14), (0, 15), (0, 17), (77, 9999)] o o)
    exact ⟨hB_o, fr_o⟩
  ·
    refine T_qB (t_X4_exists o x2 hB_o (by omega)) (fun r17 hc_r17 hp3 => ?_)
    replace hp3 : ((r17 = 1 ∧ (0 ≤ x2 ∧ x2 < o.1 32 13)) ∨ (r17 = 0 ∧ ¬ (0 ≤ x2 ∧ x2 < o.1 32 13))) := hp3
    refine T_qEq ⟨by omega, by omega⟩ ⟨by decide, by decide⟩ (fun h4 => ?_) (fun h4 => ?_)
    ·
      unfold b_X11_grants_22
      refine T_some ?_
      show BoxC o ∧ (Fr [(0, 14), (0, 15), (0, 17), (77, 9999)] o o)
      exact ⟨hB_o, fr_o⟩
    ·
      refine T_qB (t_X4_isOf o x1 5 hB_o (by omega) (by omega)) (fun r19 hc_r19 hp5 => ?_)
      replace hp5 : (0 ≤ r19 ∧ r19 ≤ 1) := hp5
      refine T_qEq ⟨by omega, by omega⟩ ⟨by decide, by decide⟩ (fun h6 => ?_) (fun h6 => ?_)
      ·
        unfold b_X11_grants_48
        refine T_qB2 (t_X11_found o 3 hB_o (by omega)) (fun r1 o3 hc_r1 hp7 => ?_)
        replace hp7 : BoxC o3 ∧ (Fr [(0, 17), (77, 9999)] o o3) ∧ (r1 = -3) := hp7
        obtain ⟨hB_o3, fc_o3, hp7⟩ := hp7
        have fr_o3 : Fr [(0, 14), (0, 15), (0, 17), (77, 9999)] o o3 := Fr.tr fr_o fc_o3 rfl
        have g66_0_o3 : o3.1 66 0 = o.1 66 0 := fc_o3.1 66 0 rfl
        have g66_1_o3 : o3.1 66 1 = o.1 66 1 := fc_o3.1 66 1 rfl
        have g0_13_o3 : o3.1 0 13 = o.1 0 13 := fc_o3.1 0 13 rfl
        have g32_13_o3 : o3.1 32 13 = o.1 32 13 := fc_o3.1 32 13 rfl
        refine T_some ?_
        show BoxC o3 ∧ (Fr [(0, 14), (0, 15), (0, 17), (77, 9999)] o o3)
        exact ⟨hB_o3, fr_o3⟩
      ·
        refine T_qB (t_X4_isOf o x2 1 hB_o (by omega) (by omega)) (fun r21 hc_r21 hp8 => ?_)
        replace hp8 : (0 ≤ r21 ∧ r21 ≤ 1) := hp8
        refine T_qEq ⟨by omega, by omega⟩ ⟨by decide, by decide⟩ (fun h9 => ?_) (fun h9 => ?_)
        ·
          unfold b_X11_grants_48
          refine T_qB2 (t_X11_found o 3 hB_o (by omega)) (fun r1 o3 hc_r1 hp10 => ?_)
          replace hp10 : BoxC o3 ∧ (Fr [(0, 17), (77, 9999)] o o3) ∧ (r1 = -3) := hp10
          obtain ⟨hB_o3, fc_o3, hp10⟩ := hp10
          have fr_o3 : Fr [(0, 14), (0, 15), (0, 17), (77, 9999)] o o3 := Fr.tr fr_o fc_o3 rfl
          have g66_0_o3 : o3.1 66 0 = o.1 66 0 := fc_o3.1 66 0 rfl
          have g66_1_o3 : o3.1 66 1 = o.1 66 1 := fc_o3.1 66 1 rfl
          have g0_13_o3 : o3.1 0 13 = o.1 0 13 := fc_o3.1 0 13 rfl
          have g32_13_o3 : o3.1 32 13 = o.1 32 13 := fc_o3.1 32 13 rfl
          refine T_some ?_
          show BoxC o3 ∧ (Fr [(0, 14), (0, 15), (0, 17), (77, 9999)] o o3)
          exact ⟨hB_o3, fr_o3⟩
        ·
          refine T_qLt ⟨by decide, by decide⟩ ⟨by omega, by omega⟩ (fun h11 => ?_) (fun h11 => ?_)
          ·
            unfold b_X11_grants_78
            refine T_qB (t_X4_dateOf o x1 hB_o (by omega)) (fun r5 hc_r5 hp12 => ?_)
            replace hp12 : (0 ≤ r5 ∧ r5 ≤ 999) := hp12
            refine T_qNm (fun n7 e_n7 => ?_)
            refine T_qB2 (t_X11_tell o n7 hB_o) (fun r8 o10 hc_r8 hp13 => ?_)
            replace hp13 : BoxC o10 ∧ (Fr [(0, 14)] o o10) ∧ (r8 = 1) := hp13
            obtain ⟨hB_o10, fc_o10, hp13⟩ := hp13
            have fr_o10 : Fr [(0, 14), (0, 15), (0, 17), (77, 9999)] o o10 := Fr.tr fr_o fc_o10 rfl
            have g66_0_o10 : o10.1 66 0 = o.1 66 0 := fc_o10.1 66 0 rfl
            have g66_1_o10 : o10.1 66 1 = o.1 66 1 := fc_o10.1 66 1 rfl
            have g0_13_o10 : o10.1 0 13 = o.1 0 13 := fc_o10.1 0 13 rfl
            have g32_13_o10 : o10.1 32 13 = o.1 32 13 := fc_o10.1 32 13 rfl
            refine T_qLt ⟨by omega, by omega⟩ ⟨by decide, by decide⟩ (fun h14 => ?_) (fun h14 => ?_)
            ·
              unfold b_X11_grants_131
              refine T_qNm (fun o4 e_o4 => ?_)
              have hB_o4 : BoxC o4 := by rw [e_o4]; exact Box.s2 hB_o10
              have fr_o4 : Fr [(0, 14), (0, 15), (0, 17), (77, 9999)] o o4 := by rw [e_o4]; exact Fr.s2 fr_o10 rfl
              have g66_0_o4 : o4.1 66 0 = o10.1 66 0 := by rw [e_o4]; rfl
              have g66_1_o4 : o4.1 66 1 = o10.1 66 1 := by rw [e_o4]; rfl
              have g0_13_o4 : o4.1 0 13 = o10.1 0 13 := by rw [e_o4]; rfl
              have g32_13_o4 : o4.1 32 13 = o10.1 32 13 := by rw [e_o4]; rfl
              refine T_qLt ⟨by omega, by omega⟩ ⟨by decide, by decide⟩ (fun h15 => ?_) (fun h15 => ?_)
              ·
                unfold b_X11_grants_144
                refine T_some ?_
                show BoxC o4 ∧ (Fr [(0, 14), (0, 15), (0, 17), (77, 9999)] o o4)
                exact ⟨hB_o4, fr_o4⟩
              ·
                unfold b_X11_grants_144
                refine T_some ?_
                show BoxC o4 ∧ (Fr [(0, 14), (0, 15), (0, 17), (77, 9999)] o o4)
                exact ⟨hB_o4, fr_o4⟩
            ·
              refine T_qB (t_X4_costOf o10 x2 hB_o10 (by omega)) (fun r11 hc_r11 hp16 => ?_)
              replace hp16 : (0 ≤ r11 ∧ r11 ≤ 1000000) := hp16
              refine T_qB (t_X4_amountOf o10 x1 hB_o10 (by omega)) (fun r13 hc_r13 hp17 => ?_)
              replace hp17 : (0 ≤ r13 ∧ r13 ≤ 10000000) := hp17
              unfold b_X11_grants_131
              refine T_qNm (fun o4 e_o4 => ?_)
              have hB_o4 : BoxC o4 := by rw [e_o4]; exact Box.s2 hB_o10
              have fr_o4 : Fr [(0, 14), (0, 15), (0, 17), (77, 9999)] o o4 := by rw [e_o4]; exact Fr.s2 fr_o10 rfl
              have g66_0_o4 : o4.1 66 0 = o10.1 66 0 := by rw [e_o4]; rfl
              have g66_1_o4 : o4.1 66 1 = o10.1 66 1 := by rw [e_o4]; rfl
              have g0_13_o4 : o4.1 0 13 = o10.1 0 13 := by rw [e_o4]; rfl
              have g32_13_o4 : o4.1 32 13 = o10.1 32 13 := by rw [e_o4]; rfl
              refine T_qLt ⟨by omega, by omega⟩ ⟨by decide, by decide⟩ (fun h18 => ?_) (fun h18 => ?_)
              ·
                unfold b_X11_grants_144
                refine T_some ?_
                show BoxC o4 ∧ (Fr [(0, 14), (0, 15), (0, 17), (77, 9999)] o o4)
                exact ⟨hB_o4, fr_o4⟩
              ·
                unfold b_X11_grants_144
                refine T_some ?_
                show BoxC o4 ∧ (Fr [(0, 14), (0, 15), (0, 17), (77, 9999)] o o4)
                exact ⟨hB_o4, fr_o4⟩
          ·
            unfold b_X11_grants_78
            refine T_qB (t_X4_dateOf o x1 hB_o (by omega)) (fun r5 hc_r5 hp19 => ?_)
            replace hp19 : (0 ≤ r5 ∧ r5 ≤ 999) := hp19
            refine T_qNm (fun n7 e_n7 => ?_)
            refine T_qB2 (t_X11_tell o n7 hB_o) (fun r8 o10 hc_r8 hp20 => ?_)
            replace hp20 : BoxC o10 ∧ (Fr [(0, 14)] o o10) ∧ (r8 = 1) := hp20
            obtain ⟨hB_o10, fc_o10, hp20⟩ := hp20
            have fr_o10 : Fr [(0, 14), (0, 15), (0, 17), (77, 9999)] o o10 := Fr.tr fr_o fc_o10 rfl
            have g66_0_o10 : o10.1 66 0 = o.1 66 0 := fc_o10.1 66 0 rfl
            have g66_1_o10 : o10.1 66 1 = o.1 66 1 := fc_o10.1 66 1 rfl
            have g0_13_o10 : o10.1 0 13 = o.1 0 13 := fc_o10.1 0 13 rfl
            have g32_13_o10 : o10.1 32 13 = o.1 32 13 := fc_o10.1 32 13 rfl
            refine T_qLt ⟨by omega, by omega⟩ ⟨by decide, by decide⟩ (fun h21 => ?_) (fun h21 => ?_)
            ·
              unfold b_X11_grants_131
              refine T_qNm (fun o4 e_o4 => ?_)
              have hB_o4 : BoxC o4 := by rw [e_o4]; exact Box.s2 hB_o10
              have fr_o4 : Fr [(0, 14), (0, 15), (0, 17), (77, 9999)] o o4 := by rw [e_o4]; exact Fr.s2 fr_o10 rfl
              have g66_0_o4 : o4.1 66 0 = o10.1 66 0 := by rw [e_o4]; rfl
              have g66_1_o4 : o4.1 66 1 = o10.1 66 1 := by rw [e_o4]; rfl
              have g0_13_o4 : o4.1 0 13 = o10.1 0 13 := by rw [e_o4]; rfl
              have g32_13_o4 : o4.1 32 13 = o10.1 32 13 := by rw [e_o4]; rfl
              refine T_qLt ⟨by omega, by omega⟩ ⟨by decide, by decide⟩ (fun h22 => ?_) (fun h22 => ?_)
              ·
                unfold b_X11_grants_144
                refine T_some ?_
                show BoxC o4 ∧ (Fr [(0, 14), (0, 15), (0, 17), (77, 9999)] o o4)
                exact ⟨hB_o4, fr_o4⟩
              ·
                unfold b_X11_grants_144
                refine T_some ?_
                show BoxC o4 ∧ (Fr [(0, 14), (0, 15), (0, 17), (77, 9999)] o o4)
                exact ⟨hB_o4, fr_o4⟩
            ·
              refine T_qB (t_X4_costOf o10 x2 hB_o10 (by omega)) (fun r11 hc_r11 hp23 => ?_)
              replace hp23 : (0 ≤ r11 ∧ r11 ≤ 1000000) := hp23
              refine T_qB (t_X4_amountOf o10 x1 hB_o10 (by omega)) (fun r13 hc_r13 hp24 => ?_)
              replace hp24 : (0 ≤ r13 ∧ r13 ≤ 10000000) := hp24
              unfold b_X11_grants_131
              refine T_qNm (fun o4 e_o4 => ?_)
              have hB_o4 : BoxC o4 := by rw [e_o4]; exact Box.s2 hB_o10
              have fr_o4 : Fr [(0, 14), (0, 15), (0, 17), (77, 9999)] o o4 := by rw [e_o4]; exact Fr.s2 fr_o10 rfl
              have g66_0_o4 : o4.1 66 0 = o10.1 66 0 := by rw [e_o4]; rfl
              have g66_1_o4 : o4.1 66 1 = o10.1 66 1 := by rw [e_o4]; rfl
              have g0_13_o4 : o4.1 0 13 = o10.1 0 13 := by rw [e_o4]; rfl
              have g32_13_o4 : o4.1 32 13 = o10.1 32 13 := by rw [e_o4]; rfl
              refine T_qLt ⟨by omega, by omega⟩ ⟨by decide, by decide⟩ (fun h25 => ?_) (fun h25 => ?_)
              ·
                unfold b_X11_grants_144
                refine T_some ?_
                show BoxC o4 ∧ (Fr [(0, 14), (0, 15), (0, 17), (77, 9999)] o o4)
                exact ⟨hB_o4, fr_o4⟩
              ·
                unfold b_X11_grants_144
                refine T_some ?_
                show BoxC o4 ∧ (Fr [(0, 14), (0, 15), (0, 17), (77, 9999)] o o4)
                exact ⟨hB_o4, fr_o4⟩
set_option maxRecDepth 20000 in
set_option maxHeartbeats 4000000 in
theorem t_X2_heards (o : OO) (hB_o : BoxC o) : T (s_X2_heards o) (fun v => (v = o.1 46 7)) := by
  have g46_7_o := bC_46_7 hB_o
  unfold s_X2_heards
  refine T_some ?_
  show ((o.1 46 7) = o.1 46 7)
  exact (by omega)
set_option maxRecDepth 20000 in
set_option maxHeartbeats 4000000 in
theorem t_X2_addHeard (o : OO) (x1 : Int) (x2 : Int) (x3 : Int) (hB_o : BoxC o) (k0 : 0 ≤ x1 ∧ x1 ≤ 39) (k1 : 0 ≤ x2 ∧ x2 ≤ 23) (k2 : 0 ≤ x3 ∧ x3 ≤ 999) (k3 : o.1 46 7 ≤ 59) : T (s_X2_addHeard o x1 x2 x3) (fun v => BoxC v ∧ (Fr [(46, 7), (50, 9999), (51, 9999), (52, 9999)] o v)) := by
  have fr_o : Fr [(46, 7), (50, 9999), (51, 9999), (52, 9999)] o o := Fr.rf
  have g46_7_o := bC_46_7 hB_o
  unfold s_X2_addHeard
  refine T_qIn ⟨by omega, by omega⟩ ?_
  refine T_qNm (fun o2 e_o2 => ?_)
  have hB_o2 : BoxC o2 := by rw [e_o2]; exact Box.s1 hB_o (show 0 ≤ x1 ∧ x1 ≤ 39 from ⟨by omega, by omega⟩)
  have fr_o2 : Fr [(46, 7), (50, 9999), (51, 9999), (52, 9999)] o o2 := by rw [e_o2]; exact Fr.s1 fr_o rfl
  have g46_7_o2 : o2.1 46 7 = o.1 46 7 := by rw [e_o2]; rfl
  refine T_qIn ⟨by omega, by omega⟩ ?_
  refine T_qNm (fun o4 e_o4 => ?_)
  have hB_o4 : BoxC o4 := by rw [e_o4]; exact Box.s1 hB_o2 (show 0 ≤ x2 ∧ x2 ≤ 23 from ⟨by omega, by omega⟩)
  have fr_o4 : Fr [(46, 7), (50, 9999), (51, 9999), (52, 9999)] o o4 := by rw [e_o4]; exact Fr.s1 fr_o2 rfl
  have g46_7_o4 : o4.1 46 7 = o2.1 46 7 := by rw [e_o4]; rfl
  refine T_qIn ⟨by omega, by omega⟩ ?_
  refine T_qNm (fun o6 e_o6 => ?_)
  have hB_o6 : BoxC o6 := by rw [e_o6]; exact Box.s1 hB_o4 (show 0 ≤ x3 ∧ x3 ≤ 999 from ⟨by omega, by omega⟩)
  have fr_o6 : Fr [(46, 7), (50, 9999), (51, 9999), (52, 9999)] o o6 := by rw [e_o6]; exact Fr.s1 fr_o4 rfl
  have g46_7_o6 : o6.1 46 7 = o4.1 46 7 := by rw [e_o6]; rfl
  refine T_qNm (fun o7 e_o7 => ?_)
  have hB_o7 : BoxC o7 := by rw [e_o7]; exact Box.s1 hB_o6 (show 0 ≤ ((o6.1 46 7) + 1) ∧ ((o6.1 46 7) + 1) ≤ 60 from ⟨by omega, by omega⟩)
  have fr_o7 : Fr [(46, 7), (50, 9999), (51, 9999), (52, 9999)] o o7 := by rw [e_o7]; exact Fr.s1 fr_o6 rfl
  have g46_7_o7 : o7.1 46 7 = ((o6.1 46 7) + 1) := by rw [e_o7]; rfl
  refine T_some ?_
  show BoxC o7 ∧ (Fr [(46, 7), (50, 9999), (51, 9999), (52, 9999)] o o7)
  exact ⟨hB_o7, fr_o7⟩
set_option maxRecDepth 20000 in
set_option maxHeartbeats 4000000 in
theorem t_X11_hear (o : OO) (x1 : Int) (x2 : Int) (hB_o : BoxC o) (k0 : inR x1) (k1 : inR x2) : T (s_X11_hear o x1 x2) (fun v => BoxC v.2 ∧ (Fr [(0, 17), (46, 7), (50, 9999), (51, 9999), (52, 9999), (77, 9999)] o v.2)) := by
  have fr_o : Fr [(0, 17), (46, 7), (50, 9999), (51, 9999), (52, 9999), (77, 9999)] o o := Fr.rf
  have g0_13_o := bC_0_13 hB_o
  have g23_4_o := bC_23_4 hB_o
  have g32_13_o := bC_32_13 hB_o
  have g46_7_o := bC_46_7 hB_o
  unfold s_X11_hear
  refine T_qB (t_X5_exists o x1 hB_o (by omega)) (fun r1 hc_r1 hp1 => ?_)
  replace hp1 : ((r1 = 1 ∧ (0 ≤ x1 ∧ x1 < o.1 23 4)) ∨ (r1 = 0 ∧ ¬ (0 ≤ x1 ∧ x1 < o.1 23 4))) := hp1
  refine T_qEq ⟨by omega, by omega⟩ ⟨by decide, by decide⟩ (fun h2 => ?_) (fun h2 => ?_)
  ·
    unfold b_X11_hear_22
    refine T_some ?_
    show BoxC o ∧ (Fr [(0, 17), (46, 7), (50, 9999), (51, 9999), (52, 9999), (77, 9999)] o o)
    exact ⟨hB_o, fr_o⟩
  ·
    refine T_qB (t_X4_exists o x2 hB_o (by omega)) (fun r3 hc_r3 hp3 => ?_)
    replace hp3 : ((r3 = 1 ∧ (0 ≤ x2 ∧ x2 < o.1 32 13)) ∨ (r3 = 0 ∧ ¬ (0 ≤ x2 ∧ x2 < o.1 32 13))) := hp3
    refine T_qEq ⟨by omega, by omega⟩ ⟨by decide, by decide⟩ (fun h4 => ?_) (fun h4 => ?_)
    ·
      unfold b_X11_hear_22
      refine T_some ?_
      show BoxC o ∧ (Fr [(0, 17), (46, 7), (50, 9999), (51, 9999), (52, 9999), (77, 9999)] o o)
      exact ⟨hB_o, fr_o⟩
    ·
      refine T_qB (t_X4_isOf o x2 1 hB_o (by omega) (by omega)) (fun r5 hc_r5 hp5 => ?_)
      replace hp5 : (0 ≤ r5 ∧ r5 ≤ 1) := hp5
      refine T_qEq ⟨by omega, by omega⟩ ⟨by decide, by decide⟩ (fun h6 => ?_) (fun h6 => ?_)
      ·
        refine T_qB2 (t_X11_found o 3 hB_o (by omega)) (fun r14 o16 hc_r14 hp7 => ?_)
        replace hp7 : BoxC o16 ∧ (Fr [(0, 17), (77, 9999)] o o16) ∧ (r14 = -3) := hp7
        obtain ⟨hB_o16, fc_o16, hp7⟩ := hp7
        have fr_o16 : Fr [(0, 17), (46, 7), (50, 9999), (51, 9999), (52, 9999), (77, 9999)] o o16 := Fr.tr fr_o fc_o16 rfl
        have g0_13_o16 : o16.1 0 13 = o.1 0 13 := fc_o16.1 0 13 rfl
        have g23_4_o16 : o16.1 23 4 = o.1 23 4 := fc_o16.1 23 4 rfl
        have g32_13_o16 : o16.1 32 13 = o.1 32 13 := fc_o16.1 32 13 rfl
        have g46_7_o16 : o16.1 46 7 = o.1 46 7 := fc_o16.1 46 7 rfl
        refine T_some ?_
        show BoxC o16 ∧ (Fr [(0, 17), (46, 7), (50, 9999), (51, 9999), (52, 9999), (77, 9999)] o o16)
        exact ⟨hB_o16, fr_o16⟩
      ·
        refine T_qB (t_X2_heardOn o x1 x2 hB_o (by omega) (by omega)) (fun r7 hc_r7 hp8 => ?_)
        replace hp8 : (-9 ≤ r7 ∧ r7 ≤ 999) := hp8
        refine T_qEq ⟨by omega, by omega⟩ ⟨by decide, by decide⟩ (fun h9 => ?_) (fun h9 => ?_)
        ·
          refine T_qB (t_X2_heards o hB_o) (fun r9 hc_r9 hp10 => ?_)
          replace hp10 : (r9 = o.1 46 7) := hp10
          refine T_qLt ⟨by omega, by omega⟩ ⟨by decide, by decide⟩ (fun h11 => ?_) (fun h11 => ?_)
          ·
            refine T_qB (t_X2_addHeard o x1 x2 (o.1 0 13) hB_o (by omega) (by omega) (by omega) (by omega)) (fun o13 hc_o13 hp12 => ?_)
            replace hp12 : BoxC o13 ∧ (Fr [(46, 7), (50, 9999), (51, 9999), (52, 9999)] o o13) := hp12
            obtain ⟨hB_o13, fc_o13⟩ := hp12
            have fr_o13 : Fr [(0, 17), (46, 7), (50, 9999), (51, 9999), (52, 9999), (77, 9999)] o o13 := Fr.tr fr_o fc_o13 rfl
            have g0_13_o13 : o13.1 0 13 = o.1 0 13 := fc_o13.1 0 13 rfl
            have g23_4_o13 : o13.1 23 4 = o.1 23 4 := fc_o13.1 23 4 rfl
            have g32_13_o13 : o13.1 32 13 = o.1 32 13 := fc_o13.1 32 13 rfl
            have g46_7_o13 := bC_46_7 hB_o13
            refine T_some ?_
            show BoxC o13 ∧ (Fr [(0, 17), (46, 7), (50, 9999), (51, 9999), (52, 9999), (77, 9999)] o o13)
            exact ⟨hB_o13, fr_o13⟩
          ·
            refine T_some ?_
            show BoxC o ∧ (Fr [(0, 17), (46, 7), (50, 9999), (51, 9999), (52, 9999), (77, 9999)] o o)
            exact ⟨hB_o, fr_o⟩
        ·
          refine T_some ?_
          show BoxC o ∧ (Fr [(0, 17), (46, 7), (50, 9999), (51, 9999), (52, 9999), (77, 9999)] o o)
          exact ⟨hB_o, fr_o⟩
set_option maxRecDepth 20000 in
set_option maxHeartbeats 4000000 in
theorem t_X4_setHearing (o : OO) (x1 : Int) (x2 : Int) (x3 : Int) (x4 : Int) (hB_o : BoxC o) (k0 : 0 ≤ x1 ∧ x1 ≤ 23) (k1 : 0 ≤ x2 ∧ x2 ≤ 63) (k2 : 0 ≤ x3 ∧ x3 ≤ 23) (k3 : 0 ≤ x4 ∧ x4 ≤ 999) : T (s_X4_setHearing o x1 x2 x3 x4) (fun v => BoxC v ∧ (Fr [(42, 9999), (43, 9999), (44, 9999)] o v)) := by
  have fr_o : Fr [(42, 9999), (43, 9999), (44, 9999)] o o := Fr.rf
  unfold s_X4_setHearing
  refine T_qIn ⟨by omega, by omega⟩ ?_
  refine T_qNm (fun o2 e_o2 => ?_)
  have hB_o2 : BoxC o2 := by rw [e_o2]; exact Box.s1 hB_o (show 0 ≤ x2 ∧ x2 ≤ 63 from ⟨by omega, by omega⟩)
  have fr_o2 : Fr [(42, 9999), (43, 9999), (44, 9999)] o o2 := by rw [e_o2]; exact Fr.s1 fr_o rfl
  refine T_qIn ⟨by omega, by omega⟩ ?_
  refine T_qNm (fun o4 e_o4 => ?_)
  have hB_o4 : BoxC o4 := by rw [e_o4]; exact Box.s1 hB_o2 (show 0 ≤ x3 ∧ x3 ≤ 23 from ⟨by omega, by omega⟩)
  have fr_o4 : Fr [(42, 9999), (43, 9999), (44, 9999)] o o4 := by rw [e_o4]; exact Fr.s1 fr_o2 rfl
  refine T_qIn ⟨by omega, by omega⟩ ?_
  refine T_qNm (fun o6 e_o6 => ?_)
  have hB_o6 : BoxC o6 := by rw [e_o6]; exact Box.s1 hB_o4 (show 0 ≤ x4 ∧ x4 ≤ 999 from ⟨by omega, by omega⟩)
  have fr_o6 : Fr [(42, 9999), (43, 9999), (44, 9999)] o o6 := by rw [e_o6]; exact Fr.s1 fr_o4 rfl
  refine T_some ?_
  show BoxC o6 ∧ (Fr [(42, 9999), (43, 9999), (44, 9999)] o o6)
  exact ⟨hB_o6, fr_o6⟩
set_option maxRecDepth 20000 in
set_option maxHeartbeats 4000000 in
theorem t_X11_hearing (o : OO) (x1 : Int) (x2 : Int) (x3 : Int) (x4 : Int) (hB_o : BoxC o) (k0 : inR x1) (k1 : inR x2) (k2 : inR x3) (k3 : inR x4) : T (s_X11_hearing o x1 x2 x3 x4) (fun v => BoxC v.2 ∧ (Fr [(0, 17), (32, 13), (33, 9999), (34, 9999), (35, 9999), (40, 9999), (42, 9999), (43, 9999), (44, 9999), (77, 9999)] o v.2)) := by
  have fr_o : Fr [(0, 17), (32, 13), (33, 9999), (34, 9999), (35, 9999), (40, 9999), (42, 9999), (43, 9999), (44, 9999), (77, 9999)] o o := Fr.rf
  have g0_13_o := bC_0_13 hB_o
  have g32_13_o := bC_32_13 hB_o
  unfold s_X11_hearing
  refine T_qB (t_X4_exists o x1 hB_o (by omega)) (fun r1 hc_r1 hp1 => ?_)
  replace hp1 : ((r1 = 1 ∧ (0 ≤ x1 ∧ x1 < o.1 32 13)) ∨ (r1 = 0 ∧ ¬ (0 ≤ x1 ∧ x1 < o.1 32 13))) := hp1
  refine T_qEq ⟨by omega, by omega⟩ ⟨by decide, by decide⟩ (fun h2 => ?_) (fun h2 => ?_)
  ·
    unfold b_X11_hearing_36
    refine T_some ?_
    show BoxC o ∧ (Fr [(0, 17), (32, 13), (33, 9999), (34, 9999), (35, 9999), (40, 9999), (42, 9999), (43, 9999), (44, 9999), (77, 9999)] o o)
    exact ⟨hB_o, fr_o⟩
  ·
    refine T_qB (t_X3_isCell x2 (by omega)) (fun r3 hc_r3 hp3 => ?_)
    replace hp3 : ((r3 = 1 ∧ (0 ≤ x2 ∧ x2 < 64)) ∨ (r3 = 0 ∧ ¬ (0 ≤ x2 ∧ x2 < 64))) := hp3
    refine T_qEq ⟨by omega, by omega⟩ ⟨by decide, by decide⟩ (fun h4 => ?_) (fun h4 => ?_)
    ·
      unfold b_X11_hearing_36
      refine T_some ?_
      show BoxC o ∧ (Fr [(0, 17), (32, 13), (33, 9999), (34, 9999), (35, 9999), (40, 9999), (42, 9999), (43, 9999), (44, 9999), (77, 9999)] o o)
      exact ⟨hB_o, fr_o⟩
    ·
      refine T_qLt ⟨by omega, by omega⟩ ⟨by decide, by decide⟩ (fun h5 => ?_) (fun h5 => ?_)
      ·
        unfold b_X11_hearing_36
        refine T_some ?_
        show BoxC o ∧ (Fr [(0, 17), (32, 13), (33, 9999), (34, 9999), (35, 9999), (40, 9999), (42, 9999), (43, 9999), (44, 9999), (77, 9999)] o o)
        exact ⟨hB_o, fr_o⟩
      ·
        refine T_qLt ⟨by decide, by decide⟩ ⟨by omega, by omega⟩ (fun h6 => ?_) (fun h6 => ?_)
        ·
          unfold b_X11_hearing_36
          refine T_some ?_
          show BoxC o ∧ (Fr [(0, 17), (32, 13), (33, 9999), (34, 9999), (35, 9999), (40, 9999), (42, 9999), (43, 9999), (44, 9999), (77, 9999)] o o)
          exact ⟨hB_o, fr_o⟩
        ·
          refine T_qB (t_X11_isDay x4 (by omega)) (fun r5 hc_r5 hp7 => ?_)
          replace hp7 : ((r5 = 1 ∧ (0 ≤ x4 ∧ x4 ≤ 999)) ∨ (r5 = 0 ∧ ¬ (0 ≤ x4 ∧ x4 ≤ 999))) := hp7
          refine T_qEq ⟨by omega, by omega⟩ ⟨by decide, by decide⟩ (fun h8 => ?_) (fun h8 => ?_)
          ·
            unfold b_X11_hearing_36
            refine T_some ?_
            show BoxC o ∧ (Fr [(0, 17), (32, 13), (33, 9999), (34, 9999), (35, 9999), (40, 9999), (42, 9999), (43, 9999), (44, 9999), (77, 9999)] o o)
            exact ⟨hB_o, fr_o⟩
          ·
            refine T_qB (t_X4_number o hB_o) (fun r7 hc_r7 hp9 => ?_)
            replace hp9 : (r7 = o.1 32 13) := hp9
            refine T_qLt ⟨by omega, by omega⟩ ⟨by decide, by decide⟩ (fun h10 => ?_) (fun h10 => ?_)
            ·
              refine T_qB (t_X4_isOf o x1 1 hB_o (by omega) (by omega)) (fun r9 hc_r9 hp11 => ?_)
              replace hp11 : (0 ≤ r9 ∧ r9 ≤ 1) := hp11
              refine T_qEq ⟨by omega, by omega⟩ ⟨by decide, by decide⟩ (fun h12 => ?_) (fun h12 => ?_)
              ·
                refine T_qB2 (t_X11_found o 3 hB_o (by omega)) (fun r17 o19 hc_r17 hp13 => ?_)
                replace hp13 : BoxC o19 ∧ (Fr [(0, 17), (77, 9999)] o o19) ∧ (r17 = -3) := hp13
                obtain ⟨hB_o19, fc_o19, hp13⟩ := hp13
                have fr_o19 : Fr [(0, 17), (32, 13), (33, 9999), (34, 9999), (35, 9999), (40, 9999), (42, 9999), (43, 9999), (44, 9999), (77, 9999)] o o19 := Fr.tr fr_o fc_o19 rfl
                have g0_13_o19 : o19.1 0 13 = o.1 0 13 := fc_o19.1 0 13 rfl
                have g32_13_o19 : o19.1 32 13 = o.1 32 13 := fc_o19.1 32 13 rfl
                refine T_some ?_
                show BoxC o19 ∧ (Fr [(0, 17), (32, 13), (33, 9999), (34, 9999), (35, 9999), (40, 9999), (42, 9999), (43, 9999), (44, 9999), (77, 9999)] o o19)
                exact ⟨hB_o19, fr_o19⟩
              ·
                refine T_qLt ⟨by omega, by omega⟩ ⟨by omega, by omega⟩ (fun h14 => ?_) (fun h14 => ?_)
                ·
                  refine T_some ?_
                  show BoxC o ∧ (Fr [(0, 17), (32, 13), (33, 9999), (34, 9999), (35, 9999), (40, 9999), (42, 9999), (43, 9999), (44, 9999), (77, 9999)] o o)
                  exact ⟨hB_o, fr_o⟩
                ·
                  refine T_qB2 (t_X4_add o 6 (o.1 0 13) x1 hB_o (by omega) (by omega) (by omega) (by omega)) (fun r11 o13 hc_r11 hp15 => ?_)
                  replace hp15 : BoxC o13 ∧ (Fr [(32, 13), (33, 9999), (34, 9999), (35, 9999), (40, 9999)] o o13) ∧ (r11 = o.1 32 13) ∧ (o13.1 32 13 = o.1 32 13 + 1) := hp15
                  obtain ⟨hB_o13, fc_o13, hp15⟩ := hp15
                  have fr_o13 : Fr [(0, 17), (32, 13), (33, 9999), (34, 9999), (35, 9999), (40, 9999), (42, 9999), (43, 9999), (44, 9999), (77, 9999)] o o13 := Fr.tr fr_o fc_o13 rfl
                  have g0_13_o13 : o13.1 0 13 = o.1 0 13 := fc_o13.1 0 13 rfl
                  have g32_13_o13 := bC_32_13 hB_o13
                  refine T_qB (t_X4_setHearing o13 r11 x2 x3 x4 hB_o13 (by omega) (by omega) (by omega) (by omega)) (fun o16 hc_o16 hp16 => ?_)
                  replace hp16 : BoxC o16 ∧ (Fr [(42, 9999), (43, 9999), (44, 9999)] o13 o16) := hp16
                  obtain ⟨hB_o16, fc_o16⟩ := hp16
                  have fr_o16 : Fr [(0, 17), (32, 13), (33, 9999), (34, 9999), (35, 9999), (40, 9999), (42, 9999), (43, 9999), (44, 9999), (77, 9999)] o o16 := Fr.tr fr_o13 fc_o16 rfl
                  have g0_13_o16 : o16.1 0 13 = o13.1 0 13 := fc_o16.1 0 13 rfl
                  have g32_13_o16 : o16.1 32 13 = o13.1 32 13 := fc_o16.1 32 13 rfl
                  refine T_some ?_
                  show BoxC o16 ∧ (Fr [(0, 17), (32, 13), (33, 9999), (34, 9999), (35, 9999), (40, 9999), (42, 9999), (43, 9999), (44, 9999), (77, 9999)] o o16)
                  exact ⟨hB_o16, fr_o16⟩
            ·
              refine T_some ?_
              show BoxC o ∧ (Fr [(0, 17), (32, 13), (33, 9999), (34, 9999), (35, 9999), (40, 9999), (42, 9999), (43, 9999), (44, 9999), (77, 9999)] o o)
              exact ⟨hB_o, fr_o⟩
set_option maxRecDepth 20000 in
set_option maxHeartbeats 4000000 in
theorem t_X11_house (o : OO) (x1 : Int) (x2 : Int) (hB_o : BoxC o) (k0 : inR x1) (k1 : inR x2) : T (s_X11_house o x1 x2) (fun v => BoxC v.2 ∧ (Fr [(0, 14)] o v.2)) := by
  have fr_o : Fr [(0, 14)] o o := Fr.rf
  have g10_12_o := bC_10_12 hB_o
  unfold s_X11_house
  refine T_qB (t_X1_exists o x1 hB_o (by omega)) (fun r1 hc_r1 hp1 => ?_)
  replace hp1 : ((r1 = 1 ∧ (0 ≤ x1 ∧ x1 < o.1 10 12)) ∨ (r1 = 0 ∧ ¬ (0 ≤ x1 ∧ x1 < o.1 10 12))) := hp1
  refine T_qEq ⟨by omega, by omega⟩ ⟨by decide, by decide⟩ (fun h2 => ?_) (fun h2 => ?_)
  ·
    unfold b_X11_house_20
    refine T_some ?_
    show BoxC o ∧ (Fr [(0, 14)] o o)
    exact ⟨hB_o, fr_o⟩
  ·
    refine T_qLt ⟨by omega, by omega⟩ ⟨by decide, by decide⟩ (fun h3 => ?_) (fun h3 => ?_)
    ·
      unfold b_X11_house_20
      refine T_some ?_
      show BoxC o ∧ (Fr [(0, 14)] o o)
      exact ⟨hB_o, fr_o⟩
    ·
      refine T_qLt ⟨by decide, by decide⟩ ⟨by omega, by omega⟩ (fun h4 => ?_) (fun h4 => ?_)
      ·
        unfold b_X11_house_20
        refine T_some ?_
        show BoxC o ∧ (Fr [(0, 14)] o o)
        exact ⟨hB_o, fr_o⟩
      ·
        refine T_qB (t_X1_trait o x1 x2 hB_o (by omega) (by omega)) (fun r3 hc_r3 hp5 => ?_)
        replace hp5 : (inR r3) := hp5
        refine T_qB2 (t_X11_tell o r3 hB_o) (fun r5 o7 hc_r5 hp6 => ?_)
        replace hp6 : BoxC o7 ∧ (Fr [(0, 14)] o o7) ∧ (r5 = 1) := hp6
        obtain ⟨hB_o7, fc_o7, hp6⟩ := hp6
        have fr_o7 : Fr [(0, 14)] o o7 := Fr.tr fr_o fc_o7 rfl
        have g10_12_o7 : o7.1 10 12 = o.1 10 12 := fc_o7.1 10 12 rfl
        refine T_some ?_
        show BoxC o7 ∧ (Fr [(0, 14)] o o7)
        exact ⟨hB_o7, fr_o7⟩
set_option maxRecDepth 20000 in
set_option maxHeartbeats 4000000 in
theorem t_X4_dayOf (o : OO) (x1 : Int) (hB_o : BoxC o) (k0 : 0 ≤ x1 ∧ x1 ≤ 23) : T (s_X4_dayOf o x1) (fun v => (0 ≤ v ∧ v ≤ 999)) := by
  unfold s_X4_dayOf
  refine T_qIn ⟨by omega, by omega⟩ ?_
  refine T_qNm (fun n2 e_n2 => ?_)
  have b_n2 : 0 ≤ n2 ∧ n2 ≤ 999 := by rw [e_n2]; exact bC_34 hB_o _
  refine T_some ?_
  show (0 ≤ n2 ∧ n2 ≤ 999)
  exact (by omega)
set_option maxRecDepth 20000 in
set_option maxHeartbeats 4000000 in
theorem t_X5_homeOf (o : OO) (x1 : Int) (hB_o : BoxC o) (k0 : 0 ≤ x1 ∧ x1 ≤ 39) : T (s_X5_homeOf o x1) (fun v => (v = -9 ∨ (0 ≤ v ∧ v ≤ 31)) ∧ (v = o.1 24 x1.toNat)) := by
  unfold s_X5_homeOf
  refine T_qIn ⟨by omega, by omega⟩ ?_
  refine T_qNm (fun n2 e_n2 => ?_)
  have b_n2 : n2 = -9 ∨ (0 ≤ n2 ∧ n2 ≤ 31) := by rw [e_n2]; exact bC_24 hB_o _
  refine T_some ?_
  show (n2 = -9 ∨ (0 ≤ n2 ∧ n2 ≤ 31)) ∧ (n2 = o.1 24 x1.toNat)
  exact ⟨(by omega), (by omega)⟩
set_option maxRecDepth 20000 in
set_option maxHeartbeats 4000000 in
theorem t_X4_partyOf (o : OO) (x1 : Int) (hB_o : BoxC o) (k0 : 0 ≤ x1 ∧ x1 ≤ 23) : T (s_X4_partyOf o x1) (fun v => (0 ≤ v ∧ v ≤ 63)) := by
  unfold s_X4_partyOf
  refine T_qIn ⟨by omega, by omega⟩ ?_
  refine T_qNm (fun n2 e_n2 => ?_)
  have b_n2 : 0 ≤ n2 ∧ n2 ≤ 63 := by rw [e_n2]; exact bC_42 hB_o _
  refine T_some ?_
  show (0 ≤ n2 ∧ n2 ≤ 63)
  exact (by omega)
set_option maxRecDepth 20000 in
set_option maxHeartbeats 4000000 in
theorem t_X3_steps (x0 : Int) (x1 : Int) (k0 : 0 ≤ x0 ∧ x0 ≤ 63) (k1 : 0 ≤ x1 ∧ x1 ≤ 63) : T (s_X3_steps x0 x1) (fun v => (0 ≤ v ∧ v ≤ 14)) := by
  unfold s_X3_steps
  refine T_qDv ⟨⟨by omega, by omega⟩, ⟨by decide, by decide⟩, by decide⟩ ?_
  have jd1 : jq x0 8 = x0 / 8 := jq_nn (by omega)
  refine T_qDv ⟨⟨by omega, by omega⟩, ⟨by decide, by decide⟩, by decide⟩ ?_
  have jd2 : jq x1 8 = x1 / 8 := jq_nn (by omega)
  refine T_qR ⟨by omega, by omega⟩ ?_
  refine T_qDv ⟨⟨by omega, by omega⟩, ⟨by decide, by decide⟩, by decide⟩ ?_
  have jd3 : jq x0 8 = x0 / 8 := jq_nn (by omega)
  refine T_qDv ⟨⟨by omega, by omega⟩, ⟨by decide, by decide⟩, by decide⟩ ?_
  have jd4 : jq x1 8 = x1 / 8 := jq_nn (by omega)
  refine T_qR ⟨by omega, by omega⟩ ?_
  refine T_some ?_
  show (0 ≤ ((max ((x0 - jq x0 8 * 8) - (x1 - jq x1 8 * 8)) (-((x0 - jq x0 8 * 8) - (x1 - jq x1 8 * 8)))) + (max ((jq x0 8) - (jq x1 8)) (-((jq x0 8) - (jq x1 8))))) ∧ ((max ((x0 - jq x0 8 * 8) - (x1 - jq x1 8 * 8)) (-((x0 - jq x0 8 * 8) - (x1 - jq x1 8 * 8)))) + (max ((jq x0 8) - (jq x1 8)) (-((jq x0 8) - (jq x1 8))))) ≤ 14)
  exact (by omega)
set_option maxRecDepth 20000 in
set_option maxHeartbeats 4000000 in
theorem t_X4_hourOf (o : OO) (x1 : Int) (hB_o : BoxC o) (k0 : 0 ≤ x1 ∧ x1 ≤ 23) : T (s_X4_hourOf o x1) (fun v => (0 ≤ v ∧ v ≤ 23)) := by
  unfold s_X4_hourOf
  refine T_qIn ⟨by omega, by omega⟩ ?_
  refine T_qNm (fun n2 e_n2 => ?_)
  have b_n2 : 0 ≤ n2 ∧ n2 ≤ 23 := by rw [e_n2]; exact bC_44 hB_o _
  refine T_some ?_
  show (0 ≤ n2 ∧ n2 ≤ 23)
  exact (by omega)
set_option maxRecDepth 20000 in
set_option maxHeartbeats 4000000 in
theorem t_X5_canCome (o : OO) (x1 : Int) (x2 : Int) (x3 : Int) (hB_o : BoxC o) (k0 : 0 ≤ x1 ∧ x1 ≤ 39) (k1 : inR x2) (k2 : inR x3) : T (s_X5_canCome o x1 x2 x3) (fun v => (0 ≤ v ∧ v ≤ 1)) := by
  unfold s_X5_canCome
  refine T_qIn ⟨by omega, by omega⟩ ?_
  refine T_qNm (fun n4 e_n4 => ?_)
  have b_n4 : 0 ≤ n4 ∧ n4 ≤ 1 := by rw [e_n4]; exact bC_26 hB_o _
  refine T_qEq ⟨by omega, by omega⟩ ⟨by decide, by decide⟩ (fun h1 => ?_) (fun h1 => ?_)
  ·
    refine T_qLt ⟨by decide, by decide⟩ ⟨by omega, by omega⟩ (fun h2 => ?_) (fun h2 => ?_)
    ·
      unfold b_X5_canCome_42
      unfold b_X5_canCome_43
      refine T_qZ (Or.inl rfl) ?_
      refine T_some ?_
      show (0 ≤ 0 ∧ 0 ≤ 1)
      exact (by omega)
    ·
      unfold b_X5_canCome_15
      refine T_qIn ⟨by omega, by omega⟩ ?_
      refine T_qNm (fun n2 e_n2 => ?_)
      have b_n2 : n2 = -9 ∨ (0 ≤ n2 ∧ n2 ≤ 63) := by rw [e_n2]; exact bC_25 hB_o _
      refine T_qEq ⟨by omega, by omega⟩ ⟨by decide, by decide⟩ (fun h3 => ?_) (fun h3 => ?_)
      ·
        unfold b_X5_canCome_38
        unfold b_X5_canCome_43
        refine T_qZ (Or.inr rfl) ?_
        refine T_some ?_
        show (0 ≤ 1 ∧ 1 ≤ 1)
        exact (by omega)
      ·
        refine T_qLt ⟨by omega, by omega⟩ ⟨by decide, by decide⟩ (fun h4 => ?_) (fun h4 => ?_)
        ·
          unfold b_X5_canCome_38
          unfold b_X5_canCome_43
          refine T_qZ (Or.inr rfl) ?_
          refine T_some ?_
          show (0 ≤ 1 ∧ 1 ≤ 1)
          exact (by omega)
        ·
          refine T_qLt ⟨by decide, by decide⟩ ⟨by omega, by omega⟩ (fun h5 => ?_) (fun h5 => ?_)
          ·
            unfold b_X5_canCome_38
            unfold b_X5_canCome_43
            refine T_qZ (Or.inr rfl) ?_
            refine T_some ?_
            show (0 ≤ 1 ∧ 1 ≤ 1)
            exact (by omega)
          ·
            unfold b_X5_canCome_42
            unfold b_X5_canCome_43
            refine T_qZ (Or.inl rfl) ?_
            refine T_some ?_
            show (0 ≤ 0 ∧ 0 ≤ 1)
            exact (by omega)
  ·
    unfold b_X5_canCome_15
    refine T_qIn ⟨by omega, by omega⟩ ?_
    refine T_qNm (fun n2 e_n2 => ?_)
    have b_n2 : n2 = -9 ∨ (0 ≤ n2 ∧ n2 ≤ 63) := by rw [e_n2]; exact bC_25 hB_o _
    refine T_qEq ⟨by omega, by omega⟩ ⟨by decide, by decide⟩ (fun h6 => ?_) (fun h6 => ?_)
    ·
      unfold b_X5_canCome_38
      unfold b_X5_canCome_43
      refine T_qZ (Or.inr rfl) ?_
      refine T_some ?_
      show (0 ≤ 1 ∧ 1 ≤ 1)
      exact (by omega)
    ·
      refine T_qLt ⟨by omega, by omega⟩ ⟨by decide, by decide⟩ (fun h7 => ?_) (fun h7 => ?_)
      ·
        unfold b_X5_canCome_38
        unfold b_X5_canCome_43
        refine T_qZ (Or.inr rfl) ?_
        refine T_some ?_
        show (0 ≤ 1 ∧ 1 ≤ 1)
        exact (by omega)
      ·
        refine T_qLt ⟨by decide, by decide⟩ ⟨by omega, by omega⟩ (fun h8 => ?_) (fun h8 => ?_)
        ·
          unfold b_X5_canCome_38
          unfold b_X5_canCome_43
          refine T_qZ (Or.inr rfl) ?_
          refine T_some ?_
          show (0 ≤ 1 ∧ 1 ≤ 1)
          exact (by omega)
        ·
          unfold b_X5_canCome_42
          unfold b_X5_canCome_43
          refine T_qZ (Or.inl rfl) ?_
          refine T_some ?_
          show (0 ≤ 0 ∧ 0 ≤ 1)
          exact (by omega)
set_option maxRecDepth 20000 in
set_option maxHeartbeats 4000000 in
theorem tl_X11_couldCome_4 (o : OO) (x1 : Int) (i_x2 : Int) (i_x3 : Int) (hB_o : BoxC o) (k0 : 0 ≤ x1 ∧ x1 ≤ 23) (v0 : 0 ≤ i_x2 ∧ i_x2 ≤ i_x3) (v1 : 0 ≤ i_x3 ∧ i_x3 ≤ o.1 23 4) : T (loopW (fun s => l_X11_couldCome_4 o x1 s.1 s.2) (i_x2, i_x3)) (fun r => (0 ≤ r ∧ r ≤ o.1 23 4)) := by
  refine T_loop (fun s => (0 ≤ s.1 ∧ s.1 ≤ s.2) ∧ (0 ≤ s.2 ∧ s.2 ≤ o.1 23 4)) (fun s => (o.1 23 4 - s.2).toNat) (by exact ⟨v0, v1⟩) (fun s hs => ?_)
  obtain ⟨x2, x3⟩ := s
  replace hs : (0 ≤ x2 ∧ x2 ≤ x3) ∧ (0 ≤ x3 ∧ x3 ≤ o.1 23 4) := hs
  obtain ⟨w0, w1⟩ := hs
  have g23_4_o := bC_23_4 hB_o
  show T (l_X11_couldCome_4 o x1 x2 x3) _
  unfold l_X11_couldCome_4
  refine T_qB (t_X5_number o hB_o) (fun r1 hc_r1 hp1 => ?_)
  replace hp1 : (r1 = o.1 23 4) := hp1
  refine T_qLt ⟨by omega, by omega⟩ ⟨by omega, by omega⟩ (fun h2 => ?_) (fun h2 => ?_)
  ·
    refine T_qB (t_X5_homeOf o x3 hB_o (by omega)) (fun r3 hc_r3 hp3 => ?_)
    replace hp3 : (r3 = -9 ∨ (0 ≤ r3 ∧ r3 ≤ 31)) ∧ (r3 = o.1 24 x3.toNat) := hp3
    have hps_hp3 := hp3
    obtain ⟨hp3_0, hp3_1⟩ := hps_hp3
    replace hp3 := hid hp3
    refine T_qEq ⟨by omega, by omega⟩ ⟨by decide, by decide⟩ (fun h4 => ?_) (fun h4 => ?_)
    ·
      unfold b_X11_couldCome_81
      refine T_some ?_
      show ((0 ≤ x2 ∧ x2 ≤ (x3 + 1)) ∧ (0 ≤ (x3 + 1) ∧ (x3 + 1) ≤ o.1 23 4)) ∧ (o.1 23 4 - (x3 + 1)).toNat < (o.1 23 4 - x3).toNat
      exact ⟨⟨(by omega), (by omega)⟩, by omega⟩
    ·
      refine T_qB (t_X1_cellOfOne o r3 hB_o (by omega)) (fun r5 hc_r5 hp5 => ?_)
      replace hp5 : (0 ≤ r5 ∧ r5 ≤ 63) ∧ (r5 = o.1 11 r3.toNat) := hp5
      have hps_hp5 := hp5
      obtain ⟨hp5_0, hp5_1⟩ := hps_hp5
      replace hp5 := hid hp5
      refine T_qB (t_X4_partyOf o x1 hB_o (by omega)) (fun r7 hc_r7 hp6 => ?_)
      replace hp6 : (0 ≤ r7 ∧ r7 ≤ 63) := hp6
      refine T_qB (t_X3_steps r5 r7 (by omega) (by omega)) (fun r9 hc_r9 hp7 => ?_)
      replace hp7 : (0 ≤ r9 ∧ r9 ≤ 14) := hp7
      refine T_qB (t_X4_hourOf o x1 hB_o (by omega)) (fun r11 hc_r11 hp8 => ?_)
      replace hp8 : (0 ≤ r11 ∧ r11 ≤ 23) := hp8
      refine T_qB (t_X5_canCome o x3 r9 r11 hB_o (by omega) (by omega) (by omega)) (fun r13 hc_r13 hp9 => ?_)
      replace hp9 : (0 ≤ r13 ∧ r13 ≤ 1) := hp9
      refine T_qEq ⟨by omega, by omega⟩ ⟨by decide, by decide⟩ (fun h10 => ?_) (fun h10 => ?_)
      ·
        unfold b_X11_couldCome_81
        refine T_some ?_
        show ((0 ≤ x2 ∧ x2 ≤ (x3 + 1)) ∧ (0 ≤ (x3 + 1) ∧ (x3 + 1) ≤ o.1 23 4)) ∧ (o.1 23 4 - (x3 + 1)).toNat < (o.1 23 4 - x3).toNat
        exact ⟨⟨(by omega), (by omega)⟩, by omega⟩
      ·
        unfold b_X11_couldCome_81
        refine T_some ?_
        show ((0 ≤ (x2 + 1) ∧ (x2 + 1) ≤ (x3 + 1)) ∧ (0 ≤ (x3 + 1) ∧ (x3 + 1) ≤ o.1 23 4)) ∧ (o.1 23 4 - (x3 + 1)).toNat < (o.1 23 4 - x3).toNat
        exact ⟨⟨(by omega), (by omega)⟩, by omega⟩
  ·
    refine T_some ?_
    show (0 ≤ x2 ∧ x2 ≤ o.1 23 4)
    exact (by omega)
set_option maxRecDepth 20000 in
set_option maxHeartbeats 4000000 in
theorem t_X11_couldCome (o : OO) (x1 : Int) (hB_o : BoxC o) (k0 : 0 ≤ x1 ∧ x1 ≤ 23) : T (s_X11_couldCome o x1) (fun v => (0 ≤ v ∧ v ≤ 40)) := by
  have g23_4_o := bC_23_4 hB_o
  unfold s_X11_couldCome
  unfold e_X11_couldCome_4
  refine T_qB (tl_X11_couldCome_4 o x1 0 0 hB_o (by omega) (by omega) (by omega)) (fun r11 hc_r11 hp12 => ?_)
  obtain ⟨x2_13, q_x2_13⟩ : ∃ q, q = r11 := ⟨_, rfl⟩
  subst q_x2_13
  replace hp12 : (0 ≤ x2_13 ∧ x2_13 ≤ o.1 23 4) := hp12
  show T (b_X11_couldCome_87 o x2_13) _
  unfold b_X11_couldCome_87
  refine T_some ?_
  show (0 ≤ x2_13 ∧ x2_13 ≤ 40)
  exact (by omega)
