set_option maxRecDepth 20000 in
set_option maxHeartbeats 4000000 in
theorem t_X1_remove (o : OO) (x1 : Int) (hB_o : BoxC o) (k0 : 0 ≤ x1 ∧ x1 ≤ 31) : T (s_X1_remove o x1) (fun v => BoxC v ∧ (Fr [(14, 9999), (17, 9999), (18, 9999)] o v) ∧ (0 ≤ x1 → x1 < o.1 10 12 → o.1 17 x1.toNat = 0 → OC o → OC v)) := by
  have fr_o : Fr [(14, 9999), (17, 9999), (18, 9999)] o o := Fr.rf
  have g10_12_o := bC_10_12 hB_o
  unfold s_X1_remove
  refine T_qIn ⟨by omega, by omega⟩ ?_
  refine T_qZ (Or.inr rfl) ?_
  refine T_qNm (fun o3 e_o3 => ?_)
  have hB_o3 : BoxC o3 := by rw [e_o3]; exact Box.s1 hB_o (show 0 ≤ 1 ∧ 1 ≤ 1 from ⟨by omega, by omega⟩)
  have fr_o3 : Fr [(14, 9999), (17, 9999), (18, 9999)] o o3 := by rw [e_o3]; exact Fr.s1 fr_o rfl
  have g10_12_o3 : o3.1 10 12 = o.1 10 12 := by rw [e_o3]; rfl
  refine T_qIn ⟨by omega, by omega⟩ ?_
  refine T_qNm (fun o5 e_o5 => ?_)
  have hB_o5 : BoxC o5 := by rw [e_o5]; exact Box.s1 hB_o3 (show 0 ≤ 0 ∧ 0 ≤ 40 from ⟨by omega, by omega⟩)
  have fr_o5 : Fr [(14, 9999), (17, 9999), (18, 9999)] o o5 := by rw [e_o5]; exact Fr.s1 fr_o3 rfl
  have g10_12_o5 : o5.1 10 12 = o3.1 10 12 := by rw [e_o5]; rfl
  refine T_qIn ⟨by omega, by omega⟩ ?_
  refine T_qNm (fun n7 e_n7 => ?_)
  have b_n7 : 0 ≤ n7 ∧ n7 ≤ 63 := by rw [e_n7]; exact bC_11 hB_o5 _
  refine T_qIn ⟨by omega, by omega⟩ ?_
  refine T_qNm (fun o9 e_o9 => ?_)
  have hB_o9 : BoxC o9 := by rw [e_o9]; exact Box.s1 hB_o5 (show (-9) = -9 ∨ (0 ≤ (-9) ∧ (-9) ≤ 31) from (by omega))
  have fr_o9 : Fr [(14, 9999), (17, 9999), (18, 9999)] o o9 := by rw [e_o9]; exact Fr.s1 fr_o5 rfl
  have g10_12_o9 : o9.1 10 12 = o5.1 10 12 := by rw [e_o9]; rfl
  refine T_some ?_
  show BoxC o9 ∧ (Fr [(14, 9999), (17, 9999), (18, 9999)] o o9) ∧ (0 ≤ x1 → x1 < o.1 10 12 → o.1 17 x1.toNat = 0 → OC o → OC o9)
  exact ⟨hB_o9, fr_o9, (fun a b c h => OC_rem a b c h (by rw [e_o9, e_o5, e_o3]; rfl) (fun k => by rw [e_o9, e_o5, e_o3]; rfl) (fun k => by rw [e_o9, e_o5, e_o3]; rfl) (fun k => by rw [e_o9, e_n7, e_o5, e_o3]; rfl))⟩
set_option maxRecDepth 20000 in
set_option maxHeartbeats 4000000 in
theorem t_X11_take (o : OO) (x1 : Int) (x2 : Int) (hB_o : BoxC o) (k0 : inR x1) (k1 : inR x2) (k2 : HTC o) : T (s_X11_take o x1 x2) (fun v => BoxC v.2 ∧ (Fr [(0, 14), (0, 17), (14, 9999), (17, 9999), (18, 9999), (24, 9999), (32, 13), (33, 9999), (34, 9999), (35, 9999), (40, 9999), (41, 9999), (45, 9999), (77, 9999)] o v.2) ∧ (inR v.1) ∧ (OC o → OC v.2)) := by
  have fr_o : Fr [(0, 14), (0, 17), (14, 9999), (17, 9999), (18, 9999), (24, 9999), (32, 13), (33, 9999), (34, 9999), (35, 9999), (40, 9999), (41, 9999), (45, 9999), (77, 9999)] o o := Fr.rf
  have g0_13_o := bC_0_13 hB_o
  have g10_12_o := bC_10_12 hB_o
  have g32_13_o := bC_32_13 hB_o
  unfold s_X11_take
  refine T_qB (t_X1_exists o x1 hB_o (by omega)) (fun r20 hc_r20 hp1 => ?_)
  replace hp1 : ((r20 = 1 ∧ (0 ≤ x1 ∧ x1 < o.1 10 12)) ∨ (r20 = 0 ∧ ¬ (0 ≤ x1 ∧ x1 < o.1 10 12))) := hp1
  refine T_qEq ⟨by omega, by omega⟩ ⟨by decide, by decide⟩ (fun h2 => ?_) (fun h2 => ?_)
  ·
    unfold b_X11_take_22
    refine T_some ?_
    show BoxC o ∧ (Fr [(0, 14), (0, 17), (14, 9999), (17, 9999), (18, 9999), (24, 9999), (32, 13), (33, 9999), (34, 9999), (35, 9999), (40, 9999), (41, 9999), (45, 9999), (77, 9999)] o o) ∧ (inR (-1)) ∧ (OC o → OC o)
    exact ⟨hB_o, fr_o, (by omega), (by first | exact (fun h => h) | assumption)⟩
  ·
    refine T_qB (t_X4_exists o x2 hB_o (by omega)) (fun r22 hc_r22 hp3 => ?_)
    replace hp3 : ((r22 = 1 ∧ (0 ≤ x2 ∧ x2 < o.1 32 13)) ∨ (r22 = 0 ∧ ¬ (0 ≤ x2 ∧ x2 < o.1 32 13))) := hp3
    refine T_qEq ⟨by omega, by omega⟩ ⟨by decide, by decide⟩ (fun h4 => ?_) (fun h4 => ?_)
    ·
      unfold b_X11_take_22
      refine T_some ?_
      show BoxC o ∧ (Fr [(0, 14), (0, 17), (14, 9999), (17, 9999), (18, 9999), (24, 9999), (32, 13), (33, 9999), (34, 9999), (35, 9999), (40, 9999), (41, 9999), (45, 9999), (77, 9999)] o o) ∧ (inR (-1)) ∧ (OC o → OC o)
      exact ⟨hB_o, fr_o, (by omega), (by first | exact (fun h => h) | assumption)⟩
    ·
      refine T_qB (t_X4_number o hB_o) (fun r24 hc_r24 hp5 => ?_)
      replace hp5 : (r24 = o.1 32 13) := hp5
      refine T_qLt ⟨by omega, by omega⟩ ⟨by decide, by decide⟩ (fun h6 => ?_) (fun h6 => ?_)
      ·
        refine T_qB (t_X4_isOf o x2 1 hB_o (by omega) (by omega)) (fun r26 hc_r26 hp7 => ?_)
        replace hp7 : (0 ≤ r26 ∧ r26 ≤ 1) := hp7
        refine T_qEq ⟨by omega, by omega⟩ ⟨by decide, by decide⟩ (fun h8 => ?_) (fun h8 => ?_)
        ·
          refine T_qB2 (t_X11_found o 3 hB_o (by omega)) (fun r42 o44 hc_r42 hp9 => ?_)
          replace hp9 : BoxC o44 ∧ (Fr [(0, 17), (77, 9999)] o o44) ∧ (r42 = -3) := hp9
          obtain ⟨hB_o44, fc_o44, hp9⟩ := hp9
          have fr_o44 : Fr [(0, 14), (0, 17), (14, 9999), (17, 9999), (18, 9999), (24, 9999), (32, 13), (33, 9999), (34, 9999), (35, 9999), (40, 9999), (41, 9999), (45, 9999), (77, 9999)] o o44 := Fr.tr fr_o fc_o44 rfl
          have g0_13_o44 : o44.1 0 13 = o.1 0 13 := fc_o44.1 0 13 rfl
          have g10_12_o44 : o44.1 10 12 = o.1 10 12 := fc_o44.1 10 12 rfl
          have g32_13_o44 : o44.1 32 13 = o.1 32 13 := fc_o44.1 32 13 rfl
          have ocf : OC o → OC o44 := fun h => OC.fr h fc_o44 rfl (fun _ => rfl) (fun _ => rfl) (fun _ => rfl)
          refine T_some ?_
          show BoxC o44 ∧ (Fr [(0, 14), (0, 17), (14, 9999), (17, 9999), (18, 9999), (24, 9999), (32, 13), (33, 9999), (34, 9999), (35, 9999), (40, 9999), (41, 9999), (45, 9999), (77, 9999)] o o44) ∧ (inR r42) ∧ (OC o → OC o44)
          exact ⟨hB_o44, fr_o44, (by omega), (by first | exact (fun h => h) | assumption)⟩
        ·
          refine T_qB (t_X4_shownOn o x2 hB_o (by omega)) (fun r28 hc_r28 hp10 => ?_)
          replace hp10 : (-9 ≤ r28 ∧ r28 ≤ 999) := hp10
          refine T_qEq ⟨by omega, by omega⟩ ⟨by decide, by decide⟩ (fun h11 => ?_) (fun h11 => ?_)
          ·
            unfold b_X11_take_105
            refine T_some ?_
            show BoxC o ∧ (Fr [(0, 14), (0, 17), (14, 9999), (17, 9999), (18, 9999), (24, 9999), (32, 13), (33, 9999), (34, 9999), (35, 9999), (40, 9999), (41, 9999), (45, 9999), (77, 9999)] o o) ∧ (inR (-4)) ∧ (OC o → OC o)
            exact ⟨hB_o, fr_o, (by omega), (by first | exact (fun h => h) | assumption)⟩
          ·
            refine T_qB (t_X1_isTaken o x1 hB_o (by omega)) (fun r30 hc_r30 hp12 => ?_)
            replace hp12 : (0 ≤ r30 ∧ r30 ≤ 1) ∧ (r30 = o.1 17 x1.toNat) := hp12
            have hps_hp12 := hp12
            obtain ⟨hp12_0, hp12_1⟩ := hps_hp12
            replace hp12 := hid hp12
            refine T_qEq ⟨by omega, by omega⟩ ⟨by decide, by decide⟩ (fun h13 => ?_) (fun h13 => ?_)
            ·
              refine T_qB (t_X4_cells o x2 hB_o (by omega)) (fun p32 hc_p32 hp14 => ?_)
              refine T_qB (t_X1_cellOfOne o x1 hB_o (by omega)) (fun r34 hc_r34 hp15 => ?_)
              replace hp15 : (0 ≤ r34 ∧ r34 ≤ 63) ∧ (r34 = o.1 11 x1.toNat) := hp15
              have hps_hp15 := hp15
              obtain ⟨hp15_0, hp15_1⟩ := hps_hp15
              replace hp15 := hid hp15
              refine T_qB (t_X3_has p32 r34) (fun r36 hc_r36 hp16 => ?_)
              replace hp16 : (0 ≤ r36 ∧ r36 ≤ 1) ∧ (HBT p32 r34 r36) := hp16
              have hps_hp16 := hp16
              obtain ⟨hp16_0, hp16_1⟩ := hps_hp16
              replace hp16 := hid hp16
              refine T_qEq ⟨by omega, by omega⟩ ⟨by decide, by decide⟩ (fun h17 => ?_) (fun h17 => ?_)
              ·
                unfold b_X11_take_105
                refine T_some ?_
                show BoxC o ∧ (Fr [(0, 14), (0, 17), (14, 9999), (17, 9999), (18, 9999), (24, 9999), (32, 13), (33, 9999), (34, 9999), (35, 9999), (40, 9999), (41, 9999), (45, 9999), (77, 9999)] o o) ∧ (inR (-4)) ∧ (OC o → OC o)
                exact ⟨hB_o, fr_o, (by omega), (by first | exact (fun h => h) | assumption)⟩
              ·
                refine T_qB (t_X1_worthBy o x1 (r28 - 1) hB_o (by omega) (by omega)) (fun r38 hc_r38 hp18 => ?_)
                replace hp18 : (-9 ≤ r38 ∧ r38 ≤ 100000) ∧ (r38 = -9 ∨ 0 ≤ r38) := hp18
                have hps_hp18 := hp18
                obtain ⟨hp18_0, hp18_1⟩ := hps_hp18
                replace hp18 := hid hp18
                refine T_qEq ⟨by omega, by omega⟩ ⟨by decide, by decide⟩ (fun h19 => ?_) (fun h19 => ?_)
                ·
                  refine T_qB (t_X1_firstWorth o x1 hB_o (by omega) (by omega) k2) (fun r40 hc_r40 hp20 => ?_)
                  replace hp20 : (0 ≤ r40 ∧ r40 ≤ 100000) := hp20
                  unfold b_X11_take_138
                  refine T_qB (t_X11_inForce o 2 hB_o (by omega)) (fun r1 hc_r1 hp21 => ?_)
                  replace hp21 : (0 ≤ r1 ∧ r1 ≤ 9999) := hp21
                  have hm9 := mul_rng (a := r40) (b := r1) (A := 100000) (B := 9999) (by omega) (by omega) (by omega) (by omega)
                  refine T_qDv ⟨⟨by omega, by omega⟩, ⟨by decide, by decide⟩, by decide⟩ ?_
                  have jd22 : jq (r40 * r1) 100 = (r40 * r1) / 100 := jq_nn (by omega)
                  refine T_qNm (fun n4 e_n4 => ?_)
                  refine T_qB2 (t_X4_add o 3 (o.1 0 13) x2 hB_o (by omega) (by omega) (by omega) (by omega)) (fun r5 o7 hc_r5 hp23 => ?_)
                  replace hp23 : BoxC o7 ∧ (Fr [(32, 13), (33, 9999), (34, 9999), (35, 9999), (40, 9999)] o o7) ∧ (r5 = o.1 32 13) ∧ (o7.1 32 13 = o.1 32 13 + 1) := hp23
                  obtain ⟨hB_o7, fc_o7, hp23⟩ := hp23
                  have fr_o7 : Fr [(0, 14), (0, 17), (14, 9999), (17, 9999), (18, 9999), (24, 9999), (32, 13), (33, 9999), (34, 9999), (35, 9999), (40, 9999), (41, 9999), (45, 9999), (77, 9999)] o o7 := Fr.tr fr_o fc_o7 rfl
                  have g0_13_o7 : o7.1 0 13 = o.1 0 13 := fc_o7.1 0 13 rfl
                  have g10_12_o7 : o7.1 10 12 = o.1 10 12 := fc_o7.1 10 12 rfl
                  have g32_13_o7 := bC_32_13 hB_o7
                  have oc7 : OC o → OC o7 := fun h => OC.fr h fc_o7 rfl (fun _ => rfl) (fun _ => rfl) (fun _ => rfl)
                  have f7 : o7.1 10 12 = o.1 10 12 ∧ o7.1 17 x1.toNat = o.1 17 x1.toNat := ⟨fc_o7.1 10 12 rfl, fc_o7.1 17 _ rfl⟩
                  refine T_qB2 (t_X5_turnOut o7 x1 hB_o7 (by omega)) (fun p8 o10 hc_p8 hp24 => ?_)
                  replace hp24 : BoxC o10 ∧ (Fr [(24, 9999)] o7 o10) := hp24
                  obtain ⟨hB_o10, fc_o10⟩ := hp24
                  have fr_o10 : Fr [(0, 14), (0, 17), (14, 9999), (17, 9999), (18, 9999), (24, 9999), (32, 13), (33, 9999), (34, 9999), (35, 9999), (40, 9999), (41, 9999), (45, 9999), (77, 9999)] o o10 := Fr.tr fr_o7 fc_o10 rfl
                  have g0_13_o10 : o10.1 0 13 = o7.1 0 13 := fc_o10.1 0 13 rfl
                  have g10_12_o10 : o10.1 10 12 = o7.1 10 12 := fc_o10.1 10 12 rfl
                  have g32_13_o10 : o10.1 32 13 = o7.1 32 13 := fc_o10.1 32 13 rfl
                  have oc10 : OC o → OC o10 := fun h => OC.fr (oc7 h) fc_o10 rfl (fun _ => rfl) (fun _ => rfl) (fun _ => rfl)
                  have f10 : o10.1 10 12 = o.1 10 12 ∧ o10.1 17 x1.toNat = o.1 17 x1.toNat := ⟨(fc_o10.1 10 12 rfl).trans f7.1, (fc_o10.1 17 _ rfl).trans f7.2⟩
                  refine T_qB (t_X4_setTaking o10 r5 n4 p8 hB_o10 (by omega) (by omega)) (fun o13 hc_o13 hp25 => ?_)
                  replace hp25 : BoxC o13 ∧ (Fr [(41, 9999), (45, 9999)] o10 o13) := hp25
                  obtain ⟨hB_o13, fc_o13⟩ := hp25
                  have fr_o13 : Fr [(0, 14), (0, 17), (14, 9999), (17, 9999), (18, 9999), (24, 9999), (32, 13), (33, 9999), (34, 9999), (35, 9999), (40, 9999), (41, 9999), (45, 9999), (77, 9999)] o o13 := Fr.tr fr_o10 fc_o13 rfl
                  have g0_13_o13 : o13.1 0 13 = o10.1 0 13 := fc_o13.1 0 13 rfl
                  have g10_12_o13 : o13.1 10 12 = o10.1 10 12 := fc_o13.1 10 12 rfl
                  have g32_13_o13 : o13.1 32 13 = o10.1 32 13 := fc_o13.1 32 13 rfl
                  have oc13 : OC o → OC o13 := fun h => OC.fr (oc10 h) fc_o13 rfl (fun _ => rfl) (fun _ => rfl) (fun _ => rfl)
                  have f13 : o13.1 10 12 = o.1 10 12 ∧ o13.1 17 x1.toNat = o.1 17 x1.toNat := ⟨(fc_o13.1 10 12 rfl).trans f10.1, (fc_o13.1 17 _ rfl).trans f10.2⟩
                  refine T_qB (t_X1_remove o13 x1 hB_o13 (by omega)) (fun o16 hc_o16 hp26 => ?_)
                  replace hp26 : BoxC o16 ∧ (Fr [(14, 9999), (17, 9999), (18, 9999)] o13 o16) ∧ (0 ≤ x1 → x1 < o13.1 10 12 → o13.1 17 x1.toNat = 0 → OC o13 → OC o16) := hp26
                  obtain ⟨hB_o16, fc_o16, hp26⟩ := hp26
                  have fr_o16 : Fr [(0, 14), (0, 17), (14, 9999), (17, 9999), (18, 9999), (24, 9999), (32, 13), (33, 9999), (34, 9999), (35, 9999), (40, 9999), (41, 9999), (45, 9999), (77, 9999)] o o16 := Fr.tr fr_o13 fc_o16 rfl
                  have g0_13_o16 : o16.1 0 13 = o13.1 0 13 := fc_o16.1 0 13 rfl
                  have g10_12_o16 : o16.1 10 12 = o13.1 10 12 := fc_o16.1 10 12 rfl
                  have g32_13_o16 : o16.1 32 13 = o13.1 32 13 := fc_o16.1 32 13 rfl
                  have oc16 : OC o → OC o16 := fun h => hp26 (by omega) (by rw [f13.1]; omega) (by rw [f13.2]; omega) (oc13 h)
                  refine T_qB2 (t_X11_tell o16 n4 hB_o16) (fun r17 o19 hc_r17 hp27 => ?_)
                  replace hp27 : BoxC o19 ∧ (Fr [(0, 14)] o16 o19) ∧ (r17 = 1) := hp27
                  obtain ⟨hB_o19, fc_o19, hp27⟩ := hp27
                  have fr_o19 : Fr [(0, 14), (0, 17), (14, 9999), (17, 9999), (18, 9999), (24, 9999), (32, 13), (33, 9999), (34, 9999), (35, 9999), (40, 9999), (41, 9999), (45, 9999), (77, 9999)] o o19 := Fr.tr fr_o16 fc_o19 rfl
                  have g0_13_o19 : o19.1 0 13 = o16.1 0 13 := fc_o19.1 0 13 rfl
                  have g10_12_o19 : o19.1 10 12 = o16.1 10 12 := fc_o19.1 10 12 rfl
                  have g32_13_o19 : o19.1 32 13 = o16.1 32 13 := fc_o19.1 32 13 rfl
                  have oc19 : OC o → OC o19 := fun h => OC.fr (oc16 h) fc_o19 rfl (fun _ => rfl) (fun _ => rfl) (fun _ => rfl)
                  refine T_some ?_
                  show BoxC o19 ∧ (Fr [(0, 14), (0, 17), (14, 9999), (17, 9999), (18, 9999), (24, 9999), (32, 13), (33, 9999), (34, 9999), (35, 9999), (40, 9999), (41, 9999), (45, 9999), (77, 9999)] o o19) ∧ (inR r5) ∧ (OC o → OC o19)
                  exact ⟨hB_o19, fr_o19, (by omega), (by first | exact (fun h => h) | assumption)⟩
                ·
                  unfold b_X11_take_138
                  refine T_qB (t_X11_inForce o 2 hB_o (by omega)) (fun r1 hc_r1 hp28 => ?_)
                  replace hp28 : (0 ≤ r1 ∧ r1 ≤ 9999) := hp28
                  have hm9 := mul_rng (a := r38) (b := r1) (A := 100000) (B := 9999) (by omega) (by omega) (by omega) (by omega)
                  refine T_qDv ⟨⟨by omega, by omega⟩, ⟨by decide, by decide⟩, by decide⟩ ?_
                  have jd29 : jq (r38 * r1) 100 = (r38 * r1) / 100 := jq_nn (by omega)
                  refine T_qNm (fun n4 e_n4 => ?_)
                  refine T_qB2 (t_X4_add o 3 (o.1 0 13) x2 hB_o (by omega) (by omega) (by omega) (by omega)) (fun r5 o7 hc_r5 hp30 => ?_)
                  replace hp30 : BoxC o7 ∧ (Fr [(32, 13), (33, 9999), (34, 9999), (35, 9999), (40, 9999)] o o7) ∧ (r5 = o.1 32 13) ∧ (o7.1 32 13 = o.1 32 13 + 1) := hp30
                  obtain ⟨hB_o7, fc_o7, hp30⟩ := hp30
                  have fr_o7 : Fr [(0, 14), (0, 17), (14, 9999), (17, 9999), (18, 9999), (24, 9999), (32, 13), (33, 9999), (34, 9999), (35, 9999), (40, 9999), (41, 9999), (45, 9999), (77, 9999)] o o7 := Fr.tr fr_o fc_o7 rfl
                  have g0_13_o7 : o7.1 0 13 = o.1 0 13 := fc_o7.1 0 13 rfl
                  have g10_12_o7 : o7.1 10 12 = o.1 10 12 := fc_o7.1 10 12 rfl
                  have g32_13_o7 := bC_32_13 hB_o7
                  have oc7 : OC o → OC o7 := fun h => OC.fr h fc_o7 rfl (fun _ => rfl) (fun _ => rfl) (fun _ => rfl)
                  have f7 : o7.1 10 12 = o.1 10 12 ∧ o7.1 17 x1.toNat = o.1 17 x1.toNat := ⟨fc_o7.1 10 12 rfl, fc_o7.1 17 _ rfl⟩
                  refine T_qB2 (t_X5_turnOut o7 x1 hB_o7 (by omega)) (fun p8 o10 hc_p8 hp31 => ?_)
                  replace hp31 : BoxC o10 ∧ (Fr [(24, 9999)] o7 o10) := hp31
                  obtain ⟨hB_o10, fc_o10⟩ := hp31
                  have fr_o10 : Fr [(0, 14), (0, 17), (14, 9999), (17, 9999), (18, 9999), (24, 9999), (32, 13), (33, 9999), (34, 9999), (35, 9999), (40, 9999), (41, 9999), (45, 9999), (77, 9999)] o o10 := Fr.tr fr_o7 fc_o10 rfl
                  have g0_13_o10 : o10.1 0 13 = o7.1 0 13 := fc_o10.1 0 13 rfl
                  have g10_12_o10 : o10.1 10 12 = o7.1 10 12 := fc_o10.1 10 12 rfl
                  have g32_13_o10 : o10.1 32 13 = o7.1 32 13 := fc_o10.1 32 13 rfl
                  have oc10 : OC o → OC o10 := fun h => OC.fr (oc7 h) fc_o10 rfl (fun _ => rfl) (fun _ => rfl) (fun _ => rfl)
                  have f10 : o10.1 10 12 = o.1 10 12 ∧ o10.1 17 x1.toNat = o.1 17 x1.toNat := ⟨(fc_o10.1 10 12 rfl).trans f7.1, (fc_o10.1 17 _ rfl).trans f7.2⟩
                  refine T_qB (t_X4_setTaking o10 r5 n4 p8 hB_o10 (by omega) (by omega)) (fun o13 hc_o13 hp32 => ?_)
                  replace hp32 : BoxC o13 ∧ (Fr [(41, 9999), (45, 9999)] o10 o13) := hp32
                  obtain ⟨hB_o13, fc_o13⟩ := hp32
                  have fr_o13 : Fr [(0, 14), (0, 17), (14, 9999), (17, 9999), (18, 9999), (24, 9999), (32, 13), (33, 9999), (34, 9999), (35, 9999), (40, 9999), (41, 9999), (45, 9999), (77, 9999)] o o13 := Fr.tr fr_o10 fc_o13 rfl
                  have g0_13_o13 : o13.1 0 13 = o10.1 0 13 := fc_o13.1 0 13 rfl
                  have g10_12_o13 : o13.1 10 12 = o10.1 10 12 := fc_o13.1 10 12 rfl
                  have g32_13_o13 : o13.1 32 13 = o10.1 32 13 := fc_o13.1 32 13 rfl
                  have oc13 : OC o → OC o13 := fun h => OC.fr (oc10 h) fc_o13 rfl (fun _ => rfl) (fun _ => rfl) (fun _ => rfl)
                  have f13 : o13.1 10 12 = o.1 10 12 ∧ o13.1 17 x1.toNat = o.1 17 x1.toNat := ⟨(fc_o13.1 10 12 rfl).trans f10.1, (fc_o13.1 17 _ rfl).trans f10.2⟩
                  refine T_qB (t_X1_remove o13 x1 hB_o13 (by omega)) (fun o16 hc_o16 hp33 => ?_)
                  replace hp33 : BoxC o16 ∧ (Fr [(14, 9999), (17, 9999), (18, 9999)] o13 o16) ∧ (0 ≤ x1 → x1 < o13.1 10 12 → o13.1 17 x1.toNat = 0 → OC o13 → OC o16) := hp33
                  obtain ⟨hB_o16, fc_o16, hp33⟩ := hp33
                  have fr_o16 : Fr [(0, 14), (0, 17), (14, 9999), (17, 9999), (18, 9999), (24, 9999), (32, 13), (33, 9999), (34, 9999), (35, 9999), (40, 9999), (41, 9999), (45, 9999), (77, 9999)] o o16 := Fr.tr fr_o13 fc_o16 rfl
                  have g0_13_o16 : o16.1 0 13 = o13.1 0 13 := fc_o16.1 0 13 rfl
                  have g10_12_o16 : o16.1 10 12 = o13.1 10 12 := fc_o16.1 10 12 rfl
                  have g32_13_o16 : o16.1 32 13 = o13.1 32 13 := fc_o16.1 32 13 rfl
                  have oc16 : OC o → OC o16 := fun h => hp33 (by omega) (by rw [f13.1]; omega) (by rw [f13.2]; omega) (oc13 h)
                  refine T_qB2 (t_X11_tell o16 n4 hB_o16) (fun r17 o19 hc_r17 hp34 => ?_)
                  replace hp34 : BoxC o19 ∧ (Fr [(0, 14)] o16 o19) ∧ (r17 = 1) := hp34
                  obtain ⟨hB_o19, fc_o19, hp34⟩ := hp34
                  have fr_o19 : Fr [(0, 14), (0, 17), (14, 9999), (17, 9999), (18, 9999), (24, 9999), (32, 13), (33, 9999), (34, 9999), (35, 9999), (40, 9999), (41, 9999), (45, 9999), (77, 9999)] o o19 := Fr.tr fr_o16 fc_o19 rfl
                  have g0_13_o19 : o19.1 0 13 = o16.1 0 13 := fc_o19.1 0 13 rfl
                  have g10_12_o19 : o19.1 10 12 = o16.1 10 12 := fc_o19.1 10 12 rfl
                  have g32_13_o19 : o19.1 32 13 = o16.1 32 13 := fc_o19.1 32 13 rfl
                  have oc19 : OC o → OC o19 := fun h => OC.fr (oc16 h) fc_o19 rfl (fun _ => rfl) (fun _ => rfl) (fun _ => rfl)
                  refine T_some ?_
                  show BoxC o19 ∧ (Fr [(0, 14), (0, 17), (14, 9999), (17, 9999), (18, 9999), (24, 9999), (32, 13), (33, 9999), (34, 9999), (35, 9999), (40, 9999), (41, 9999), (45, 9999), (77, 9999)] o o19) ∧ (inR r5) ∧ (OC o → OC o19)
                  exact ⟨hB_o19, fr_o19, (by omega), (by first | exact (fun h => h) | assumption)⟩
            ·
              unfold b_X11_take_105
              refine T_some ?_
              show BoxC o ∧ (Fr [(0, 14), (0, 17), (14, 9999), (17, 9999), (18, 9999), (24, 9999), (32, 13), (33, 9999), (34, 9999), (35, 9999), (40, 9999), (41, 9999), (45, 9999), (77, 9999)] o o) ∧ (inR (-4)) ∧ (OC o → OC o)
              exact ⟨hB_o, fr_o, (by omega), (by first | exact (fun h => h) | assumption)⟩
      ·
        refine T_some ?_
        show BoxC o ∧ (Fr [(0, 14), (0, 17), (14, 9999), (17, 9999), (18, 9999), (24, 9999), (32, 13), (33, 9999), (34, 9999), (35, 9999), (40, 9999), (41, 9999), (45, 9999), (77, 9999)] o o) ∧ (inR (-2)) ∧ (OC o → OC o)
        exact ⟨hB_o, fr_o, (by omega), (by first | exact (fun h => h) | assumption)⟩
set_option maxRecDepth 20000 in
set_option maxHeartbeats 4000000 in
theorem t_X8_remove (o : OO) (x1 : Int) (hB_o : BoxC o) (k0 : 0 ≤ x1 ∧ x1 ≤ 5) : T (s_X8_remove o x1) (fun v => BoxC v ∧ (Fr [(2, 9999)] o v)) := by
  have fr_o : Fr [(2, 9999)] o o := Fr.rf
  unfold s_X8_remove
  refine T_qIn ⟨by omega, by omega⟩ ?_
  refine T_qNm (fun o2 e_o2 => ?_)
  have hB_o2 : BoxC o2 := by rw [e_o2]; exact Box.s1 hB_o (show -1 ≤ (-1) ∧ (-1) ≤ 40 from ⟨by omega, by omega⟩)
  have fr_o2 : Fr [(2, 9999)] o o2 := by rw [e_o2]; exact Fr.s1 fr_o rfl
  refine T_some ?_
  show BoxC o2 ∧ (Fr [(2, 9999)] o o2)
  exact ⟨hB_o2, fr_o2⟩
set_option maxRecDepth 20000 in
set_option maxHeartbeats 4000000 in
theorem t_X11_tear (o : OO) (x1 : Int) (hB_o : BoxC o) (k0 : inR x1) : T (s_X11_tear o x1) (fun v => BoxC v.2 ∧ (Fr [(0, 17), (2, 9999), (77, 9999)] o v.2)) := by
  have fr_o : Fr [(0, 17), (2, 9999), (77, 9999)] o o := Fr.rf
  unfold s_X11_tear
  refine T_qB (t_X8_exists o x1 hB_o (by omega)) (fun r1 hc_r1 hp1 => ?_)
  replace hp1 : ((r1 = 1 ∧ (0 ≤ x1 ∧ x1 < 6)) ∨ (r1 = 0 ∧ ¬ (0 ≤ x1 ∧ x1 < 6))) := hp1
  refine T_qEq ⟨by omega, by omega⟩ ⟨by decide, by decide⟩ (fun h2 => ?_) (fun h2 => ?_)
  ·
    refine T_some ?_
    show BoxC o ∧ (Fr [(0, 17), (2, 9999), (77, 9999)] o o)
    exact ⟨hB_o, fr_o⟩
  ·
    refine T_qB (t_X8_isThere o x1 hB_o (by omega)) (fun r3 hc_r3 hp3 => ?_)
    replace hp3 : ((r3 = 1 ∧ (¬ o.1 2 x1.toNat = -1)) ∨ (r3 = 0 ∧ ¬ (¬ o.1 2 x1.toNat = -1))) := hp3
    refine T_qEq ⟨by omega, by omega⟩ ⟨by decide, by decide⟩ (fun h4 => ?_) (fun h4 => ?_)
    ·
      refine T_qB2 (t_X11_found o 1 hB_o (by omega)) (fun r8 o10 hc_r8 hp5 => ?_)
      replace hp5 : BoxC o10 ∧ (Fr [(0, 17), (77, 9999)] o o10) ∧ (r8 = -3) := hp5
      obtain ⟨hB_o10, fc_o10, hp5⟩ := hp5
      have fr_o10 : Fr [(0, 17), (2, 9999), (77, 9999)] o o10 := Fr.tr fr_o fc_o10 rfl
      refine T_some ?_
      show BoxC o10 ∧ (Fr [(0, 17), (2, 9999), (77, 9999)] o o10)
      exact ⟨hB_o10, fr_o10⟩
    ·
      refine T_qB (t_X8_remove o x1 hB_o (by omega)) (fun o7 hc_o7 hp6 => ?_)
      replace hp6 : BoxC o7 ∧ (Fr [(2, 9999)] o o7) := hp6
      obtain ⟨hB_o7, fc_o7⟩ := hp6
      have fr_o7 : Fr [(0, 17), (2, 9999), (77, 9999)] o o7 := Fr.tr fr_o fc_o7 rfl
      refine T_some ?_
      show BoxC o7 ∧ (Fr [(0, 17), (2, 9999), (77, 9999)] o o7)
      exact ⟨hB_o7, fr_o7⟩
set_option maxRecDepth 20000 in
set_option maxHeartbeats 4000000 in
theorem tl_J7_fill_fda19__6_10 (x2 : Int) (x3 : Int) (i_o : OO) (i_x4 : Int) (hB_i_o : BoxC i_o) (k0 : 0 ≤ x2 ∧ x2 ≤ 240) (k1 : -2147483648 ≤ x3 ∧ x3 ≤ 2147483647) (v0 : 0 ≤ i_x4 ∧ i_x4 ≤ 240) : T (loopW (fun s => l_J7_fill_fda19__6_10 x2 x3 s.1 s.2) (i_o, i_x4)) (fun r => BoxC r ∧ (Fr [(6, 9999)] i_o r)) := by
  have fr_i_o : Fr [(6, 9999)] i_o i_o := Fr.rf
  refine T_loop (fun s => BoxC s.1 ∧ (Fr [(6, 9999)] i_o s.1) ∧ (0 ≤ s.2 ∧ s.2 ≤ 240)) (fun s => (240 - s.2).toNat) (by exact ⟨hB_i_o, fr_i_o, v0⟩) (fun s hs => ?_)
  obtain ⟨o, x4⟩ := s
  replace hs : BoxC o ∧ (Fr [(6, 9999)] i_o o) ∧ (0 ≤ x4 ∧ x4 ≤ 240) := hs
  obtain ⟨hB_o, fr_o, w0⟩ := hs
  show T (l_J7_fill_fda19__6_10 x2 x3 o x4) _
  unfold l_J7_fill_fda19__6_10
  refine T_qLt ⟨by omega, by omega⟩ ⟨by omega, by omega⟩ (fun h1 => ?_) (fun h1 => ?_)
  ·
    refine T_qIn ⟨by omega, by omega⟩ ?_
    refine T_qNm (fun o2 e_o2 => ?_)
    have hB_o2 : BoxC o2 := by rw [e_o2]; exact Box.s1 hB_o (show -2147483648 ≤ x3 ∧ x3 ≤ 2147483647 from ⟨by omega, by omega⟩)
    have fr_o2 : Fr [(6, 9999)] i_o o2 := by rw [e_o2]; exact Fr.s1 fr_o rfl
    refine T_some ?_
    show (BoxC o2 ∧ (Fr [(6, 9999)] i_o o2) ∧ (0 ≤ (x4 + 1) ∧ (x4 + 1) ≤ 240)) ∧ (240 - (x4 + 1)).toNat < (240 - x4).toNat
    exact ⟨⟨hB_o2, fr_o2, (by omega)⟩, by omega⟩
  ·
    refine T_some ?_
    show BoxC o ∧ (Fr [(6, 9999)] i_o o)
    exact ⟨hB_o, fr_o⟩
set_option maxRecDepth 20000 in
set_option maxHeartbeats 4000000 in
theorem t_J7_fill_fda19__6 (o : OO) (x1 : Int) (x2 : Int) (x3 : Int) (hB_o : BoxC o) (k0 : 0 ≤ x1 ∧ x1 ≤ x2) (k1 : x2 ≤ 240) (k2 : -2147483648 ≤ x3 ∧ x3 ≤ 2147483647) : T (s_J7_fill_fda19__6 o x1 x2 x3) (fun v => BoxC v ∧ (Fr [(6, 9999)] o v)) := by
  have fr_o : Fr [(6, 9999)] o o := Fr.rf
  unfold s_J7_fill_fda19__6
  refine T_qB (t_J7_rangeCheck_23922 240 x1 x2 (by omega) (by omega) (by omega)) (fun u2 hc_u2 hp3 => ?_)
  unfold e_J7_fill_fda19__6_10
  refine T_qB (tl_J7_fill_fda19__6_10 x2 x3 o x1 hB_o (by omega) (by omega) (by omega)) (fun r4 hc_r4 hp5 => ?_)
  obtain ⟨o_6, q_o_6⟩ : ∃ q, q = r4 := ⟨_, rfl⟩
  subst q_o_6
  replace hp5 : BoxC o_6 ∧ (Fr [(6, 9999)] o o_6) := hp5
  have hps_hp5 := hp5
  obtain ⟨hp5_0, hp5_1⟩ := hps_hp5
  obtain ⟨hB_o_6, fc_o_6⟩ := hp5
  have fr_o_6 : Fr [(6, 9999)] o o_6 := Fr.tr fr_o fc_o_6 rfl
  show T (b_J7_fill_fda19__6_27 o_6) _
  unfold b_J7_fill_fda19__6_27
  refine T_some ?_
  show BoxC o_6 ∧ (Fr [(6, 9999)] o o_6)
  exact ⟨hB_o_6, fr_o_6⟩
set_option maxRecDepth 20000 in
set_option maxHeartbeats 4000000 in
theorem t_X8_layOut__4 (o : OO) (x1 : Int) (x2 : Int) (hB_o : BoxC o) (k0 : 0 ≤ x1 ∧ x1 ≤ 5) (k1 : 0 ≤ x2 ∧ x2 ≤ 40) : T (s_X8_layOut__4 o x1 x2) (fun v => BoxC v ∧ (Fr [(5, 9999), (6, 9999)] o v)) := by
  have fr_o : Fr [(5, 9999), (6, 9999)] o o := Fr.rf
  have g4_1_o := bC_4_1 hB_o
  unfold s_X8_layOut__4
  refine T_qIn ⟨by omega, by omega⟩ ?_
  refine T_qNm (fun o2 e_o2 => ?_)
  have hB_o2 : BoxC o2 := by rw [e_o2]; exact Box.s1 hB_o (show -1 ≤ x2 ∧ x2 ≤ 40 from ⟨by omega, by omega⟩)
  have fr_o2 : Fr [(5, 9999), (6, 9999)] o o2 := by rw [e_o2]; exact Fr.s1 fr_o rfl
  have g4_1_o2 : o2.1 4 1 = o.1 4 1 := by rw [e_o2]; rfl
  refine T_qB (t_J7_fill_fda19__6 o2 (x1 * 40) ((x1 * 40) + x2) (o2.1 4 1) hB_o2 (by omega) (by omega) (by omega)) (fun o5 hc_o5 hp1 => ?_)
  replace hp1 : BoxC o5 ∧ (Fr [(6, 9999)] o2 o5) := hp1
  obtain ⟨hB_o5, fc_o5⟩ := hp1
  have fr_o5 : Fr [(5, 9999), (6, 9999)] o o5 := Fr.tr fr_o2 fc_o5 rfl
  have g4_1_o5 : o5.1 4 1 = o2.1 4 1 := fc_o5.1 4 1 rfl
  refine T_some ?_
  show BoxC o5 ∧ (Fr [(5, 9999), (6, 9999)] o o5)
  exact ⟨hB_o5, fr_o5⟩
set_option maxRecDepth 20000 in
set_option maxHeartbeats 4000000 in
theorem t_X11_text (o : OO) (x1 : Int) (x2 : Int) (hB_o : BoxC o) (k0 : inR x1) (k1 : inR x2) : T (s_X11_text o x1 x2) (fun v => BoxC v.2 ∧ (Fr [(0, 17), (5, 9999), (6, 9999), (77, 9999)] o v.2)) := by
  have fr_o : Fr [(0, 17), (5, 9999), (6, 9999), (77, 9999)] o o := Fr.rf
  unfold s_X11_text
  refine T_qB (t_X8_exists__4 o x1 hB_o (by omega)) (fun r1 hc_r1 hp1 => ?_)
  replace hp1 : ((r1 = 1 ∧ (0 ≤ x1 ∧ x1 < 4)) ∨ (r1 = 0 ∧ ¬ (0 ≤ x1 ∧ x1 < 4))) := hp1
  refine T_qEq ⟨by omega, by omega⟩ ⟨by decide, by decide⟩ (fun h2 => ?_) (fun h2 => ?_)
  ·
    unfold b_X11_text_17
    refine T_some ?_
    show BoxC o ∧ (Fr [(0, 17), (5, 9999), (6, 9999), (77, 9999)] o o)
    exact ⟨hB_o, fr_o⟩
  ·
    refine T_qLt ⟨by decide, by decide⟩ ⟨by omega, by omega⟩ (fun h3 => ?_) (fun h3 => ?_)
    ·
      unfold b_X11_text_17
      refine T_some ?_
      show BoxC o ∧ (Fr [(0, 17), (5, 9999), (6, 9999), (77, 9999)] o o)
      exact ⟨hB_o, fr_o⟩
    ·
      refine T_qLt ⟨by omega, by omega⟩ ⟨by decide, by decide⟩ (fun h4 => ?_) (fun h4 => ?_)
      ·
        refine T_qB2 (t_X11_found o 5 hB_o (by omega)) (fun r6 o8 hc_r6 hp5 => ?_)
        replace hp5 : BoxC o8 ∧ (Fr [(0, 17), (77, 9999)] o o8) ∧ (r6 = -3) := hp5
        obtain ⟨hB_o8, fc_o8, hp5⟩ := hp5
        have fr_o8 : Fr [(0, 17), (5, 9999), (6, 9999), (77, 9999)] o o8 := Fr.tr fr_o fc_o8 rfl
        refine T_some ?_
        show BoxC o8 ∧ (Fr [(0, 17), (5, 9999), (6, 9999), (77, 9999)] o o8)
        exact ⟨hB_o8, fr_o8⟩
      ·
        refine T_qB (t_X8_layOut__4 o x1 x2 hB_o (by omega) (by omega)) (fun o5 hc_o5 hp6 => ?_)
        replace hp6 : BoxC o5 ∧ (Fr [(5, 9999), (6, 9999)] o o5) := hp6
        obtain ⟨hB_o5, fc_o5⟩ := hp6
        have fr_o5 : Fr [(0, 17), (5, 9999), (6, 9999), (77, 9999)] o o5 := Fr.tr fr_o fc_o5 rfl
        refine T_some ?_
        show BoxC o5 ∧ (Fr [(0, 17), (5, 9999), (6, 9999), (77, 9999)] o o5)
        exact ⟨hB_o5, fr_o5⟩
set_option maxRecDepth 20000 in
set_option maxHeartbeats 4000000 in
theorem t_X11_told (o : OO) (x1 : Int) (x2 : Int) (hB_o : BoxC o) (k0 : inR x1) (k1 : inR x2) : T (s_X11_told o x1 x2) (fun v => BoxC v.2 ∧ (Fr [(0, 14)] o v.2)) := by
  have fr_o : Fr [(0, 14)] o o := Fr.rf
  have g32_13_o := bC_32_13 hB_o
  unfold s_X11_told
  refine T_qB (t_X4_exists o x1 hB_o (by omega)) (fun r1 hc_r1 hp1 => ?_)
  replace hp1 : ((r1 = 1 ∧ (0 ≤ x1 ∧ x1 < o.1 32 13)) ∨ (r1 = 0 ∧ ¬ (0 ≤ x1 ∧ x1 < o.1 32 13))) := hp1
  refine T_qEq ⟨by omega, by omega⟩ ⟨by decide, by decide⟩ (fun h2 => ?_) (fun h2 => ?_)
  ·
    unfold b_X11_told_20
    refine T_some ?_
    show BoxC o ∧ (Fr [(0, 14)] o o)
    exact ⟨hB_o, fr_o⟩
  ·
    refine T_qLt ⟨by omega, by omega⟩ ⟨by decide, by decide⟩ (fun h3 => ?_) (fun h3 => ?_)
    ·
      unfold b_X11_told_20
      refine T_some ?_
      show BoxC o ∧ (Fr [(0, 14)] o o)
      exact ⟨hB_o, fr_o⟩
    ·
      refine T_qLt ⟨by decide, by decide⟩ ⟨by omega, by omega⟩ (fun h4 => ?_) (fun h4 => ?_)
      ·
        unfold b_X11_told_20
        refine T_some ?_
        show BoxC o ∧ (Fr [(0, 14)] o o)
        exact ⟨hB_o, fr_o⟩
      ·
        refine T_qB (t_X4_trait o x1 x2 hB_o (by omega) (by omega)) (fun r3 hc_r3 hp5 => ?_)
        replace hp5 : (inR r3) := hp5
        refine T_qB2 (t_X11_tell o r3 hB_o) (fun r5 o7 hc_r5 hp6 => ?_)
        replace hp6 : BoxC o7 ∧ (Fr [(0, 14)] o o7) ∧ (r5 = 1) := hp6
        obtain ⟨hB_o7, fc_o7, hp6⟩ := hp6
        have fr_o7 : Fr [(0, 14)] o o7 := Fr.tr fr_o fc_o7 rfl
        have g32_13_o7 : o7.1 32 13 = o.1 32 13 := fc_o7.1 32 13 rfl
        refine T_some ?_
        show BoxC o7 ∧ (Fr [(0, 14)] o o7)
        exact ⟨hB_o7, fr_o7⟩
set_option maxRecDepth 20000 in
set_option maxHeartbeats 4000000 in
theorem t_X11_value (o : OO) (x1 : Int) (x2 : Int) (hB_o : BoxC o) (k0 : inR x1) (k1 : inR x2) : T (s_X11_value o x1 x2) (fun _ => True) := by
  have g10_12_o := bC_10_12 hB_o
  unfold s_X11_value
  refine T_qB (t_X1_exists o x1 hB_o (by omega)) (fun r1 hc_r1 hp1 => ?_)
  replace hp1 : ((r1 = 1 ∧ (0 ≤ x1 ∧ x1 < o.1 10 12)) ∨ (r1 = 0 ∧ ¬ (0 ≤ x1 ∧ x1 < o.1 10 12))) := hp1
  refine T_qEq ⟨by omega, by omega⟩ ⟨by decide, by decide⟩ (fun h2 => ?_) (fun h2 => ?_)
  ·
    unfold b_X11_value_18
    refine T_some ?_
    show True
    exact trivial
  ·
    refine T_qB (t_X11_isDay x2 (by omega)) (fun r3 hc_r3 hp3 => ?_)
    replace hp3 : ((r3 = 1 ∧ (0 ≤ x2 ∧ x2 ≤ 999)) ∨ (r3 = 0 ∧ ¬ (0 ≤ x2 ∧ x2 ≤ 999))) := hp3
    refine T_qEq ⟨by omega, by omega⟩ ⟨by decide, by decide⟩ (fun h4 => ?_) (fun h4 => ?_)
    ·
      unfold b_X11_value_18
      refine T_some ?_
      show True
      exact trivial
    ·
      refine T_qB (t_X1_worthBy o x1 x2 hB_o (by omega) (by omega)) (fun r5 hc_r5 hp5 => ?_)
      replace hp5 : (-9 ≤ r5 ∧ r5 ≤ 100000) ∧ (r5 = -9 ∨ 0 ≤ r5) := hp5
      have hps_hp5 := hp5
      obtain ⟨hp5_0, hp5_1⟩ := hps_hp5
      replace hp5 := hid hp5
      refine T_some ?_
      show True
      exact trivial
set_option maxRecDepth 20000 in
set_option maxHeartbeats 4000000 in
theorem tl_X6_listHouses_11 (z2 : Int64) (i_o : OO) (i_x4 : Int) (i_x5 : Int) (hB_i_o : BoxC i_o) (v0 : 0 ≤ i_x5 ∧ i_x5 ≤ i_o.1 10 12) (v1 : 0 ≤ i_x4 ∧ i_x4 ≤ 20 * i_x5) (v2 : i_o.1 59 8 ≤ i_x5) (v3 : ∀ B, 0 ≤ B → LB i_o B → LB i_o B) : T (loopW (fun s => l_X6_listHouses_11 z2 s.1 s.2.1 s.2.2) (i_o, i_x4, i_x5)) (fun r => BoxC r.1 ∧ (Fr [(59, 8), (61, 9999), (62, 9999)] i_o r.1) ∧ (0 ≤ r.2 ∧ r.2 ≤ 640) ∧ (∀ B, 0 ≤ B → LB i_o B → LB r.1 B)) := by
  have fr_i_o : Fr [(59, 8), (61, 9999), (62, 9999)] i_o i_o := Fr.rf
  refine T_loop (fun s => BoxC s.1 ∧ (Fr [(59, 8), (61, 9999), (62, 9999)] i_o s.1) ∧ (0 ≤ s.2.2 ∧ s.2.2 ≤ s.1.1 10 12) ∧ (0 ≤ s.2.1 ∧ s.2.1 ≤ 20 * s.2.2) ∧ (s.1.1 59 8 ≤ s.2.2) ∧ (∀ B, 0 ≤ B → LB i_o B → LB s.1 B)) (fun s => (s.1.1 10 12 - s.2.2).toNat) (by exact ⟨hB_i_o, fr_i_o, v0, v1, v2, v3⟩) (fun s hs => ?_)
  obtain ⟨o, x4, x5⟩ := s
  replace hs : BoxC o ∧ (Fr [(59, 8), (61, 9999), (62, 9999)] i_o o) ∧ (0 ≤ x5 ∧ x5 ≤ o.1 10 12) ∧ (0 ≤ x4 ∧ x4 ≤ 20 * x5) ∧ (o.1 59 8 ≤ x5) ∧ (∀ B, 0 ≤ B → LB i_o B → LB o B) := hs
  obtain ⟨hB_o, fr_o, w0, w1, w2, w3⟩ := hs
  have g59_8_i := bC_59_8 hB_i_o
  have g59_8_o := bC_59_8 hB_o
  have g10_12_i := bC_10_12 hB_i_o
  have g10_12_o : o.1 10 12 = i_o.1 10 12 := fr_o.1 10 12 rfl
  have lw9 : ∀ B, 0 ≤ B → LB i_o B → LB o B := by assumption
  show T (l_X6_listHouses_11 z2 o x4 x5) _
  unfold l_X6_listHouses_11
  refine T_qB (t_X1_number o hB_o) (fun r1 hc_r1 hp1 => ?_)
  replace hp1 : (r1 = o.1 10 12) := hp1
  refine T_qLt ⟨by omega, by omega⟩ ⟨by omega, by omega⟩ (fun h2 => ?_) (fun h2 => ?_)
  ·
    refine T_qB (t_X1_roomsLeft o x5 hB_o (by omega)) (fun r3 hc_r3 hp3 => ?_)
    replace hp3 : (-40 ≤ r3 ∧ r3 ≤ 20) ∧ (r3 ≤ 0 ∨ o.1 14 x5.toNat ≤ 19) := hp3
    have hps_hp3 := hp3
    obtain ⟨hp3_0, hp3_1⟩ := hps_hp3
    replace hp3 := hid hp3
    refine T_qLt ⟨by omega, by omega⟩ ⟨by decide, by decide⟩ (fun h4 => ?_) (fun h4 => ?_)
    ·
      unfold b_X6_listHouses_93
      refine T_some ?_
      show (BoxC o ∧ (Fr [(59, 8), (61, 9999), (62, 9999)] i_o o) ∧ (0 ≤ (x5 + 1) ∧ (x5 + 1) ≤ o.1 10 12) ∧ (0 ≤ x4 ∧ x4 ≤ 20 * (x5 + 1)) ∧ (o.1 59 8 ≤ (x5 + 1)) ∧ (∀ B, 0 ≤ B → LB i_o B → LB o B)) ∧ (o.1 10 12 - (x5 + 1)).toNat < (o.1 10 12 - x5).toNat
      exact ⟨⟨hB_o, fr_o, (by omega), (by omega), (by omega), (by first | assumption | exact (fun B _ h => h) | exact (fun B b0 h => lb11 B b0 (lb17 B b0 h)))⟩, by omega⟩
    ·
      refine T_qB (t_X1_cellOfOne o x5 hB_o (by omega)) (fun r5 hc_r5 hp5 => ?_)
      replace hp5 : (0 ≤ r5 ∧ r5 ≤ 63) ∧ (r5 = o.1 11 x5.toNat) := hp5
      have hps_hp5 := hp5
      obtain ⟨hp5_0, hp5_1⟩ := hps_hp5
      replace hp5 := hid hp5
      refine T_qB (t_X3_has z2 r5) (fun r7 hc_r7 hp6 => ?_)
      replace hp6 : (0 ≤ r7 ∧ r7 ≤ 1) ∧ (HBT z2 r5 r7) := hp6
      have hps_hp6 := hp6
      obtain ⟨hp6_0, hp6_1⟩ := hps_hp6
      replace hp6 := hid hp6
      refine T_qEq ⟨by omega, by omega⟩ ⟨by decide, by decide⟩ (fun h7 => ?_) (fun h7 => ?_)
      ·
        refine T_qIn ⟨by omega, by omega⟩ ?_
        refine T_qNm (fun o10 e_o10 => ?_)
        have hB_o10 : BoxC o10 := by rw [e_o10]; exact Box.s1 hB_o (show -2147483648 ≤ r3 ∧ r3 ≤ 2147483647 from ⟨by omega, by omega⟩)
        have fr_o10 : Fr [(59, 8), (61, 9999), (62, 9999)] i_o o10 := by rw [e_o10]; exact Fr.s1 fr_o rfl
        have g59_8_o10 : o10.1 59 8 = o.1 59 8 := by rw [e_o10]; rfl
        have g10_12_o10 : o10.1 10 12 = o.1 10 12 := by rw [e_o10]; rfl
        have lb10 : ∀ B, 0 ≤ B → LB i_o B → LB o10 B := fun B b0 h => LB_st (lw9 B b0 h) b0 e_o10 (by omega)
        refine T_qB (t_X1_cellOfOne o10 x5 hB_o10 (by omega)) (fun r11 hc_r11 hp8 => ?_)
        replace hp8 : (0 ≤ r11 ∧ r11 ≤ 63) ∧ (r11 = o10.1 11 x5.toNat) := hp8
        have hps_hp8 := hp8
        obtain ⟨hp8_0, hp8_1⟩ := hps_hp8
        replace hp8 := hid hp8
        refine T_qIn ⟨by omega, by omega⟩ ?_
        refine T_qNm (fun o14 e_o14 => ?_)
        have hB_o14 : BoxC o14 := by rw [e_o14]; exact Box.s1 hB_o10 (show 0 ≤ r11 ∧ r11 ≤ 63 from ⟨by omega, by omega⟩)
        have fr_o14 : Fr [(59, 8), (61, 9999), (62, 9999)] i_o o14 := by rw [e_o14]; exact Fr.s1 fr_o10 rfl
        have g59_8_o14 : o14.1 59 8 = o10.1 59 8 := by rw [e_o14]; rfl
        have g10_12_o14 : o14.1 10 12 = o10.1 10 12 := by rw [e_o14]; rfl
        refine T_qNm (fun o15 e_o15 => ?_)
        have hB_o15 : BoxC o15 := by rw [e_o15]; exact Box.s1 hB_o14 (show 0 ≤ ((o14.1 59 8) + 1) ∧ ((o14.1 59 8) + 1) ≤ 32 from ⟨by omega, by omega⟩)
        have fr_o15 : Fr [(59, 8), (61, 9999), (62, 9999)] i_o o15 := by rw [e_o15]; exact Fr.s1 fr_o14 rfl
        have g59_8_o15 : o15.1 59 8 = ((o14.1 59 8) + 1) := by rw [e_o15]; rfl
        have g10_12_o15 : o15.1 10 12 = o14.1 10 12 := by rw [e_o15]; rfl
        have lb15 : ∀ B, 0 ≤ B → LB i_o B → LB o15 B := by rw [e_o15, e_o14]; exact lb10
        refine T_qNm (fun n16 e_n16 => ?_)
        unfold b_X6_listHouses_93
        refine T_some ?_
        show (BoxC o15 ∧ (Fr [(59, 8), (61, 9999), (62, 9999)] i_o o15) ∧ (0 ≤ (x5 + 1) ∧ (x5 + 1) ≤ o15.1 10 12) ∧ (0 ≤ n16 ∧ n16 ≤ 20 * (x5 + 1)) ∧ (o15.1 59 8 ≤ (x5 + 1)) ∧ (∀ B, 0 ≤ B → LB i_o B → LB o15 B)) ∧ (o15.1 10 12 - (x5 + 1)).toNat < (o.1 10 12 - x5).toNat
        exact ⟨⟨hB_o15, fr_o15, (by omega), (by omega), (by omega), (by first | assumption | exact (fun B _ h => h) | exact (fun B b0 h => lb11 B b0 (lb17 B b0 h)))⟩, by omega⟩
      ·
        unfold b_X6_listHouses_93
        refine T_some ?_
        show (BoxC o ∧ (Fr [(59, 8), (61, 9999), (62, 9999)] i_o o) ∧ (0 ≤ (x5 + 1) ∧ (x5 + 1) ≤ o.1 10 12) ∧ (0 ≤ x4 ∧ x4 ≤ 20 * (x5 + 1)) ∧ (o.1 59 8 ≤ (x5 + 1)) ∧ (∀ B, 0 ≤ B → LB i_o B → LB o B)) ∧ (o.1 10 12 - (x5 + 1)).toNat < (o.1 10 12 - x5).toNat
        exact ⟨⟨hB_o, fr_o, (by omega), (by omega), (by omega), (by first | assumption | exact (fun B _ h => h) | exact (fun B b0 h => lb11 B b0 (lb17 B b0 h)))⟩, by omega⟩
  ·
    refine T_some ?_
    show BoxC o ∧ (Fr [(59, 8), (61, 9999), (62, 9999)] i_o o) ∧ (0 ≤ x4 ∧ x4 ≤ 640) ∧ (∀ B, 0 ≤ B → LB i_o B → LB o B)
    exact ⟨hB_o, fr_o, (by omega), (by first | assumption | exact (fun B _ h => h) | exact (fun B b0 h => lb11 B b0 (lb17 B b0 h)))⟩
set_option maxRecDepth 20000 in
set_option maxHeartbeats 4000000 in
theorem t_X6_listHouses (o : OO) (z2 : Int64) (hB_o : BoxC o) : T (s_X6_listHouses o z2) (fun v => BoxC v.2 ∧ (Fr [(59, 8), (61, 9999), (62, 9999)] o v.2) ∧ (0 ≤ v.1 ∧ v.1 ≤ 640) ∧ (∀ B, 0 ≤ B → LB o B → LB v.2 B)) := by
  have fr_o : Fr [(59, 8), (61, 9999), (62, 9999)] o o := Fr.rf
  have g59_8_o := bC_59_8 hB_o
  have g10_12_o := bC_10_12 hB_o
  unfold s_X6_listHouses
  refine T_qNm (fun o17 e_o17 => ?_)
  have hB_o17 : BoxC o17 := by rw [e_o17]; exact Box.s1 hB_o (show 0 ≤ 0 ∧ 0 ≤ 32 from ⟨by omega, by omega⟩)
  have fr_o17 : Fr [(59, 8), (61, 9999), (62, 9999)] o o17 := by rw [e_o17]; exact Fr.s1 fr_o rfl
  have g59_8_o17 : o17.1 59 8 = 0 := by rw [e_o17]; rfl
  have g10_12_o17 : o17.1 10 12 = o.1 10 12 := by rw [e_o17]; rfl
  have lb17 : ∀ B, 0 ≤ B → LB o B → LB o17 B := by rw [e_o17]; exact (fun B _ h => h)
  unfold e_X6_listHouses_11
  refine T_qB (tl_X6_listHouses_11 z2 o17 0 0 hB_o17 (by omega) (by omega) (by omega) (by first | assumption | exact (fun B _ h => h) | exact (fun B b0 h => lb11 B b0 (lb17 B b0 h)))) (fun r9 hc_r9 hp10 => ?_)
  obtain ⟨o_11, x4_12⟩ := r9
  replace hp10 : BoxC o_11 ∧ (Fr [(59, 8), (61, 9999), (62, 9999)] o17 o_11) ∧ (0 ≤ x4_12 ∧ x4_12 ≤ 640) ∧ (∀ B, 0 ≤ B → LB o17 B → LB o_11 B) := hp10
  have hps_hp10 := hp10
  obtain ⟨hp10_0, hp10_1, hp10_2, hp10_3⟩ := hps_hp10
  obtain ⟨hB_o_11, fc_o_11, hp10⟩ := hp10
  replace hp10 := hid hp10
  have fr_o_11 : Fr [(59, 8), (61, 9999), (62, 9999)] o o_11 := Fr.tr fr_o17 fc_o_11 rfl
  have g59_8_o_11 := bC_59_8 hB_o_11
  have g10_12_o_11 : o_11.1 10 12 = o17.1 10 12 := fc_o_11.1 10 12 rfl
  show T (b_X6_listHouses_99 o_11 x4_12) _
  have lb11 : ∀ B, 0 ≤ B → LB o17 B → LB o_11 B := by assumption
  unfold b_X6_listHouses_99
  refine T_some ?_
  show BoxC o_11 ∧ (Fr [(59, 8), (61, 9999), (62, 9999)] o o_11) ∧ (0 ≤ x4_12 ∧ x4_12 ≤ 640) ∧ (∀ B, 0 ≤ B → LB o B → LB o_11 B)
  exact ⟨hB_o_11, fr_o_11, (by omega), (by first | assumption | exact (fun B _ h => h) | exact (fun B b0 h => lb11 B b0 (lb17 B b0 h)))⟩
set_option maxRecDepth 20000 in
set_option maxHeartbeats 4000000 in
theorem t_X5_workOf (o : OO) (x1 : Int) (hB_o : BoxC o) (k0 : 0 ≤ x1 ∧ x1 ≤ 39) : T (s_X5_workOf o x1) (fun v => (v = -9 ∨ (0 ≤ v ∧ v ≤ 63))) := by
  unfold s_X5_workOf
  refine T_qIn ⟨by omega, by omega⟩ ?_
  refine T_qNm (fun n2 e_n2 => ?_)
  have b_n2 : n2 = -9 ∨ (0 ≤ n2 ∧ n2 ≤ 63) := by rw [e_n2]; exact bC_25 hB_o _
  refine T_some ?_
  show (n2 = -9 ∨ (0 ≤ n2 ∧ n2 ≤ 63))
  exact (by omega)
set_option maxRecDepth 20000 in
set_option maxHeartbeats 4000000 in
theorem tl_X6_listPeople_57 (z3 : Int64) (x5 : Int) (x6 : Int) (x8 : Int) (i_o : OO) (i_x9 : Int) (hB_i_o : BoxC i_o) (k0 : 0 ≤ x5 ∧ x5 ≤ x6) (k1 : 0 ≤ x6 ∧ x6 ≤ i_o.1 23 4) (k2 : x6 < i_o.1 23 4) (k3 : x8 = -9 ∨ (0 ≤ x8 ∧ x8 ≤ 63)) (v0 : 0 ≤ i_x9 ∧ i_x9 ≤ i_o.1 59 8) : T (loopW (fun s => l_X6_listPeople_57 z3 x5 x6 x8 s.1 s.2) (i_o, i_x9)) (fun r => BoxC r ∧ (Fr [(60, 9999)] i_o r)) := by
  have fr_i_o : Fr [(60, 9999)] i_o i_o := Fr.rf
  refine T_loop (fun s => BoxC s.1 ∧ (Fr [(60, 9999)] i_o s.1) ∧ (0 ≤ s.2 ∧ s.2 ≤ s.1.1 59 8)) (fun s => (s.1.1 59 8 - s.2).toNat) (by exact ⟨hB_i_o, fr_i_o, v0⟩) (fun s hs => ?_)
  obtain ⟨o, x9⟩ := s
  replace hs : BoxC o ∧ (Fr [(60, 9999)] i_o o) ∧ (0 ≤ x9 ∧ x9 ≤ o.1 59 8) := hs
  obtain ⟨hB_o, fr_o, w0⟩ := hs
  have g59_8_i := bC_59_8 hB_i_o
  have g59_8_o : o.1 59 8 = i_o.1 59 8 := fr_o.1 59 8 rfl
  have g23_4_i := bC_23_4 hB_i_o
  have g23_4_o : o.1 23 4 = i_o.1 23 4 := fr_o.1 23 4 rfl
  show T (l_X6_listPeople_57 z3 x5 x6 x8 o x9) _
  unfold l_X6_listPeople_57
  refine T_qLt ⟨by omega, by omega⟩ ⟨by omega, by omega⟩ (fun h1 => ?_) (fun h1 => ?_)
  ·
    refine T_qEq ⟨by omega, by omega⟩ ⟨by decide, by decide⟩ (fun h2 => ?_) (fun h2 => ?_)
    ·
      unfold b_X6_listPeople_101
      refine T_qIn ⟨by omega, by omega⟩ ?_
      refine T_qNm (fun o4 e_o4 => ?_)
      have hB_o4 : BoxC o4 := by rw [e_o4]; exact Box.s1 hB_o (show 0 ≤ 0 ∧ 0 ≤ 14 from ⟨by omega, by omega⟩)
      have fr_o4 : Fr [(60, 9999)] i_o o4 := by rw [e_o4]; exact Fr.s1 fr_o rfl
      have g59_8_o4 : o4.1 59 8 = o.1 59 8 := by rw [e_o4]; rfl
      have g23_4_o4 : o4.1 23 4 = o.1 23 4 := by rw [e_o4]; rfl
      refine T_some ?_
      show (BoxC o4 ∧ (Fr [(60, 9999)] i_o o4) ∧ (0 ≤ (x9 + 1) ∧ (x9 + 1) ≤ o4.1 59 8)) ∧ (o4.1 59 8 - (x9 + 1)).toNat < (o.1 59 8 - x9).toNat
      exact ⟨⟨hB_o4, fr_o4, (by omega)⟩, by omega⟩
    ·
      refine T_qIn ⟨by omega, by omega⟩ ?_
      refine T_qNm (fun n6 e_n6 => ?_)
      have b_n6 : 0 ≤ n6 ∧ n6 ≤ 63 := by rw [e_n6]; exact bC_62 hB_o _
      refine T_qB (t_X3_steps n6 x8 (by omega) (by omega)) (fun r7 hc_r7 hp3 => ?_)
      replace hp3 : (0 ≤ r7 ∧ r7 ≤ 14) := hp3
      unfold b_X6_listPeople_101
      refine T_qIn ⟨by omega, by omega⟩ ?_
      refine T_qNm (fun o4 e_o4 => ?_)
      have hB_o4 : BoxC o4 := by rw [e_o4]; exact Box.s1 hB_o (show 0 ≤ r7 ∧ r7 ≤ 14 from ⟨by omega, by omega⟩)
      have fr_o4 : Fr [(60, 9999)] i_o o4 := by rw [e_o4]; exact Fr.s1 fr_o rfl
      have g59_8_o4 : o4.1 59 8 = o.1 59 8 := by rw [e_o4]; rfl
      have g23_4_o4 : o4.1 23 4 = o.1 23 4 := by rw [e_o4]; rfl
      refine T_some ?_
      show (BoxC o4 ∧ (Fr [(60, 9999)] i_o o4) ∧ (0 ≤ (x9 + 1) ∧ (x9 + 1) ≤ o4.1 59 8)) ∧ (o4.1 59 8 - (x9 + 1)).toNat < (o.1 59 8 - x9).toNat
      exact ⟨⟨hB_o4, fr_o4, (by omega)⟩, by omega⟩
  ·
    refine T_some ?_
    show BoxC o ∧ (Fr [(60, 9999)] i_o o)
    exact ⟨hB_o, fr_o⟩
set_option maxRecDepth 20000 in
set_option maxHeartbeats 4000000 in
theorem tl_X6_listPeople_6 (z3 : Int64) (i_o : OO) (i_x5 : Int) (i_x6 : Int) (hB_i_o : BoxC i_o) (v0 : 0 ≤ i_x5 ∧ i_x5 ≤ i_x6) (v1 : 0 ≤ i_x6 ∧ i_x6 ≤ i_o.1 23 4) : T (loopW (fun s => l_X6_listPeople_6 z3 s.1 s.2.1 s.2.2) (i_o, i_x5, i_x6)) (fun r => BoxC r.1 ∧ (Fr [(60, 9999)] i_o r.1) ∧ (0 ≤ r.2 ∧ r.2 ≤ i_o.1 23 4)) := by
  have fr_i_o : Fr [(60, 9999)] i_o i_o := Fr.rf
  refine T_loop (fun s => BoxC s.1 ∧ (Fr [(60, 9999)] i_o s.1) ∧ (0 ≤ s.2.1 ∧ s.2.1 ≤ s.2.2) ∧ (0 ≤ s.2.2 ∧ s.2.2 ≤ s.1.1 23 4)) (fun s => (s.1.1 23 4 - s.2.2).toNat) (by exact ⟨hB_i_o, fr_i_o, v0, v1⟩) (fun s hs => ?_)
  obtain ⟨o, x5, x6⟩ := s
  replace hs : BoxC o ∧ (Fr [(60, 9999)] i_o o) ∧ (0 ≤ x5 ∧ x5 ≤ x6) ∧ (0 ≤ x6 ∧ x6 ≤ o.1 23 4) := hs
  obtain ⟨hB_o, fr_o, w0, w1⟩ := hs
  have g59_8_i := bC_59_8 hB_i_o
  have g59_8_o : o.1 59 8 = i_o.1 59 8 := fr_o.1 59 8 rfl
  have g23_4_i := bC_23_4 hB_i_o
  have g23_4_o : o.1 23 4 = i_o.1 23 4 := fr_o.1 23 4 rfl
  show T (l_X6_listPeople_6 z3 o x5 x6) _
  unfold l_X6_listPeople_6
  refine T_qB (t_X5_number o hB_o) (fun r9 hc_r9 hp4 => ?_)
  replace hp4 : (r9 = o.1 23 4) := hp4
  refine T_qLt ⟨by omega, by omega⟩ ⟨by omega, by omega⟩ (fun h5 => ?_) (fun h5 => ?_)
  ·
    refine T_qB (t_X5_homeOf o x6 hB_o (by omega)) (fun r11 hc_r11 hp6 => ?_)
    replace hp6 : (r11 = -9 ∨ (0 ≤ r11 ∧ r11 ≤ 31)) ∧ (r11 = o.1 24 x6.toNat) := hp6
    have hps_hp6 := hp6
    obtain ⟨hp6_0, hp6_1⟩ := hps_hp6
    replace hp6 := hid hp6
    refine T_qEq ⟨by omega, by omega⟩ ⟨by decide, by decide⟩ (fun h7 => ?_) (fun h7 => ?_)
    ·
      unfold b_X6_listPeople_127
      refine T_some ?_
      show (BoxC o ∧ (Fr [(60, 9999)] i_o o) ∧ (0 ≤ x5 ∧ x5 ≤ (x6 + 1)) ∧ (0 ≤ (x6 + 1) ∧ (x6 + 1) ≤ o.1 23 4)) ∧ (o.1 23 4 - (x6 + 1)).toNat < (o.1 23 4 - x6).toNat
      exact ⟨⟨hB_o, fr_o, (by omega), (by omega)⟩, by omega⟩
    ·
      refine T_qB (t_X1_cellOfOne o r11 hB_o (by omega)) (fun r13 hc_r13 hp8 => ?_)
      replace hp8 : (0 ≤ r13 ∧ r13 ≤ 63) ∧ (r13 = o.1 11 r11.toNat) := hp8
      have hps_hp8 := hp8
      obtain ⟨hp8_0, hp8_1⟩ := hps_hp8
      replace hp8 := hid hp8
      refine T_qB (t_X3_has z3 r13) (fun r15 hc_r15 hp9 => ?_)
      replace hp9 : (0 ≤ r15 ∧ r15 ≤ 1) ∧ (HBT z3 r13 r15) := hp9
      have hps_hp9 := hp9
      obtain ⟨hp9_0, hp9_1⟩ := hps_hp9
      replace hp9 := hid hp9
      refine T_qEq ⟨by omega, by omega⟩ ⟨by decide, by decide⟩ (fun h10 => ?_) (fun h10 => ?_)
      ·
        unfold b_X6_listPeople_127
        refine T_some ?_
        show (BoxC o ∧ (Fr [(60, 9999)] i_o o) ∧ (0 ≤ x5 ∧ x5 ≤ (x6 + 1)) ∧ (0 ≤ (x6 + 1) ∧ (x6 + 1) ≤ o.1 23 4)) ∧ (o.1 23 4 - (x6 + 1)).toNat < (o.1 23 4 - x6).toNat
        exact ⟨⟨hB_o, fr_o, (by omega), (by omega)⟩, by omega⟩
      ·
        refine T_qB (t_X5_workOf o x6 hB_o (by omega)) (fun r17 hc_r17 hp11 => ?_)
        replace hp11 : (r17 = -9 ∨ (0 ≤ r17 ∧ r17 ≤ 63)) := hp11
        unfold e_X6_listPeople_57
        refine T_qB (tl_X6_listPeople_57 z3 x5 x6 r17 o 0 hB_o (by omega) (by omega) (by omega) (by omega) (by omega)) (fun r12 hc_r12 hp13 => ?_)
        obtain ⟨o_14, q_o_14⟩ : ∃ q, q = r12 := ⟨_, rfl⟩
        subst q_o_14
        replace hp13 : BoxC o_14 ∧ (Fr [(60, 9999)] o o_14) := hp13
        have hps_hp13 := hp13
        obtain ⟨hp13_0, hp13_1⟩ := hps_hp13
        obtain ⟨hB_o_14, fc_o_14⟩ := hp13
        have fr_o_14 : Fr [(60, 9999)] i_o o_14 := Fr.tr fr_o fc_o_14 rfl
        have g59_8_o_14 : o_14.1 59 8 = o.1 59 8 := fc_o_14.1 59 8 rfl
        have g23_4_o_14 : o_14.1 23 4 = o.1 23 4 := fc_o_14.1 23 4 rfl
        show T (b_X6_listPeople_108 o_14 z3 x5 x6) _
        unfold b_X6_listPeople_108
        refine T_qIn ⟨by omega, by omega⟩ ?_
        refine T_qNm (fun o2 e_o2 => ?_)
        have hB_o2 : BoxC o2 := by rw [e_o2]; exact Box.s1 hB_o_14 (show 0 ≤ 0 ∧ 0 ≤ 14 from ⟨by omega, by omega⟩)
        have fr_o2 : Fr [(60, 9999)] i_o o2 := by rw [e_o2]; exact Fr.s1 fr_o_14 rfl
        have g59_8_o2 : o2.1 59 8 = o_14.1 59 8 := by rw [e_o2]; rfl
        have g23_4_o2 : o2.1 23 4 = o_14.1 23 4 := by rw [e_o2]; rfl
        unfold b_X6_listPeople_127
        refine T_some ?_
        show (BoxC o2 ∧ (Fr [(60, 9999)] i_o o2) ∧ (0 ≤ (x5 + 1) ∧ (x5 + 1) ≤ (x6 + 1)) ∧ (0 ≤ (x6 + 1) ∧ (x6 + 1) ≤ o2.1 23 4)) ∧ (o2.1 23 4 - (x6 + 1)).toNat < (o.1 23 4 - x6).toNat
        exact ⟨⟨hB_o2, fr_o2, (by omega), (by omega)⟩, by omega⟩
  ·
    refine T_some ?_
    show BoxC o ∧ (Fr [(60, 9999)] i_o o) ∧ (0 ≤ x5 ∧ x5 ≤ i_o.1 23 4)
    exact ⟨hB_o, fr_o, (by omega)⟩
set_option maxRecDepth 20000 in
set_option maxHeartbeats 4000000 in
theorem t_X6_listPeople (o : OO) (z3 : Int64) (hB_o : BoxC o) : T (s_X6_listPeople o z3) (fun v => BoxC v.2 ∧ (Fr [(60, 9999)] o v.2) ∧ (0 ≤ v.1 ∧ v.1 ≤ 40)) := by
  have fr_o : Fr [(60, 9999)] o o := Fr.rf
  have g59_8_o := bC_59_8 hB_o
  have g23_4_o := bC_23_4 hB_o
  unfold s_X6_listPeople
  unfold e_X6_listPeople_6
  refine T_qB (tl_X6_listPeople_6 z3 o 0 0 hB_o (by omega) (by omega)) (fun r15 hc_r15 hp16 => ?_)
  obtain ⟨o_17, x5_18⟩ := r15
  replace hp16 : BoxC o_17 ∧ (Fr [(60, 9999)] o o_17) ∧ (0 ≤ x5_18 ∧ x5_18 ≤ o.1 23 4) := hp16
  have hps_hp16 := hp16
  obtain ⟨hp16_0, hp16_1, hp16_2⟩ := hps_hp16
  obtain ⟨hB_o_17, fc_o_17, hp16⟩ := hp16
  replace hp16 := hid hp16
  have fr_o_17 : Fr [(60, 9999)] o o_17 := Fr.tr fr_o fc_o_17 rfl
  have g59_8_o_17 : o_17.1 59 8 = o.1 59 8 := fc_o_17.1 59 8 rfl
  have g23_4_o_17 : o_17.1 23 4 = o.1 23 4 := fc_o_17.1 23 4 rfl
  show T (b_X6_listPeople_133 o_17 x5_18) _
  unfold b_X6_listPeople_133
  refine T_some ?_
  show BoxC o_17 ∧ (Fr [(60, 9999)] o o_17) ∧ (0 ≤ x5_18 ∧ x5_18 ≤ 40)
  exact ⟨hB_o_17, fr_o_17, (by omega)⟩
set_option maxRecDepth 20000 in
set_option maxHeartbeats 4000000 in
theorem t_X6_price (o : OO) (x1 : Int) (x2 : Int) (hB_o : BoxC o) (k0 : 0 ≤ x1 ∧ x1 ≤ 39) (k1 : 0 ≤ x2 ∧ x2 ≤ 32) : T (s_X6_price o x1 x2) (fun v => (0 ≤ v ∧ v ≤ 14) ∧ (v = o.1 60 ((x1 * 33) + x2).toNat)) := by
  unfold s_X6_price
  refine T_qIn ⟨by omega, by omega⟩ ?_
  refine T_qNm (fun n2 e_n2 => ?_)
  have b_n2 : 0 ≤ n2 ∧ n2 ≤ 14 := by rw [e_n2]; exact bC_60 hB_o _
  refine T_some ?_
  show (0 ≤ n2 ∧ n2 ≤ 14) ∧ (n2 = o.1 60 ((x1 * 33) + x2).toNat)
  exact ⟨(by omega), (by omega)⟩
set_option maxRecDepth 20000 in
set_option maxHeartbeats 4000000 in
theorem tl_X6_relax_37 (x1 : Int) (x3 : Int) (x4 : Int) (i_o : OO) (i_x2 : Int) (i_x5 : Int) (hB_i_o : BoxC i_o) (k0 : 0 ≤ x1 ∧ x1 ≤ 39) (k1 : 0 ≤ x3 ∧ x3 ≤ 39) (k2 : LB i_o 410000000) (k3 : -410000014 ≤ x4 ∧ x4 ≤ 14) (v0 : 0 ≤ i_x5 ∧ i_x5 ≤ i_o.1 59 8 + 1) (v1 : 0 ≤ i_x2 ∧ i_x2 ≤ 1) (v2 : ∀ B, 0 ≤ B → LB i_o B → -(B + 14) ≤ x4 → LB i_o (B + 14)) : T (loopW (fun s => l_X6_relax_37 x1 x3 x4 s.1 s.2.1 s.2.2) (i_o, i_x2, i_x5)) (fun r => BoxC r.1 ∧ (Fr [(64, 9999), (65, 9999)] i_o r.1) ∧ (0 ≤ r.2 ∧ r.2 ≤ 1) ∧ (∀ B, 0 ≤ B → LB i_o B → -(B + 14) ≤ x4 → LB r.1 (B + 14))) := by
  have fr_i_o : Fr [(64, 9999), (65, 9999)] i_o i_o := Fr.rf
  refine T_loop (fun s => BoxC s.1 ∧ (Fr [(64, 9999), (65, 9999)] i_o s.1) ∧ (0 ≤ s.2.2 ∧ s.2.2 ≤ s.1.1 59 8 + 1) ∧ (0 ≤ s.2.1 ∧ s.2.1 ≤ 1) ∧ (∀ B, 0 ≤ B → LB i_o B → -(B + 14) ≤ x4 → LB s.1 (B + 14))) (fun s => (s.1.1 59 8 + 1 - s.2.2).toNat) (by exact ⟨hB_i_o, fr_i_o, v0, v1, v2⟩) (fun s hs => ?_)
  obtain ⟨o, x2, x5⟩ := s
  replace hs : BoxC o ∧ (Fr [(64, 9999), (65, 9999)] i_o o) ∧ (0 ≤ x5 ∧ x5 ≤ o.1 59 8 + 1) ∧ (0 ≤ x2 ∧ x2 ≤ 1) ∧ (∀ B, 0 ≤ B → LB i_o B → -(B + 14) ≤ x4 → LB o (B + 14)) := hs
  obtain ⟨hB_o, fr_o, w0, w1, w2⟩ := hs
  have g59_8_i := bC_59_8 hB_i_o
  have g59_8_o : o.1 59 8 = i_o.1 59 8 := fr_o.1 59 8 rfl
  show T (l_X6_relax_37 x1 x3 x4 o x2 x5) _
  unfold l_X6_relax_37
  refine T_qLt ⟨by omega, by omega⟩ ⟨by omega, by omega⟩ (fun h1 => ?_) (fun h1 => ?_)
  ·
    refine T_some ?_
    show BoxC o ∧ (Fr [(64, 9999), (65, 9999)] i_o o) ∧ (0 ≤ x2 ∧ x2 ≤ 1) ∧ (∀ B, 0 ≤ B → LB i_o B → -(B + 14) ≤ x4 → LB o (B + 14))
    exact ⟨hB_o, fr_o, (by omega), (by first | assumption | exact (fun B _ h _ => LB.up h (by omega)))⟩
  ·
    refine T_qB (t_X6_price o x3 x5 hB_o (by omega) (by omega)) (fun r1 hc_r1 hp2 => ?_)
    replace hp2 : (0 ≤ r1 ∧ r1 ≤ 14) ∧ (r1 = o.1 60 ((x3 * 33) + x5).toNat) := hp2
    have hps_hp2 := hp2
    obtain ⟨hp2_0, hp2_1⟩ := hps_hp2
    replace hp2 := hid hp2
    refine T_qIn ⟨by omega, by omega⟩ ?_
    refine T_qNm (fun n4 e_n4 => ?_)
    have b_n4 : -2147483648 ≤ n4 ∧ n4 ≤ 2147483647 := by rw [e_n4]; exact bC_64 hB_o _
    have lb4 := w2 410000000 (by decide) (by assumption) (by omega) x5.toNat (by omega)
    refine T_qLt ⟨by omega, by omega⟩ ⟨by omega, by omega⟩ (fun h3 => ?_) (fun h3 => ?_)
    ·
      refine T_qB (t_X6_price o x3 x5 hB_o (by omega) (by omega)) (fun r5 hc_r5 hp4 => ?_)
      replace hp4 : (0 ≤ r5 ∧ r5 ≤ 14) ∧ (r5 = o.1 60 ((x3 * 33) + x5).toNat) := hp4
      have hps_hp4 := hp4
      obtain ⟨hp4_0, hp4_1⟩ := hps_hp4
      replace hp4 := hid hp4
      refine T_qIn ⟨by omega, by omega⟩ ?_
      refine T_qNm (fun o8 e_o8 => ?_)
      have hB_o8 : BoxC o8 := by rw [e_o8]; exact Box.s1 hB_o (show -2147483648 ≤ (x4 + r5) ∧ (x4 + r5) ≤ 2147483647 from ⟨by omega, by omega⟩)
      have fr_o8 : Fr [(64, 9999), (65, 9999)] i_o o8 := by rw [e_o8]; exact Fr.s1 fr_o rfl
      have g59_8_o8 : o8.1 59 8 = o.1 59 8 := by rw [e_o8]; rfl
      have lb8 : ∀ B, 0 ≤ B → LB i_o B → -(B + 14) ≤ x4 → LB o8 (B + 14) := fun B b0 hB hx => by rw [e_o8]; exact LB_64 (w2 B b0 hB hx) (Int.le_refl _) (by omega)
      refine T_qIn ⟨by omega, by omega⟩ ?_
      refine T_qNm (fun o10 e_o10 => ?_)
      have hB_o10 : BoxC o10 := by rw [e_o10]; exact Box.s1 hB_o8 (show 0 ≤ x3 ∧ x3 ≤ 39 from ⟨by omega, by omega⟩)
      have fr_o10 : Fr [(64, 9999), (65, 9999)] i_o o10 := by rw [e_o10]; exact Fr.s1 fr_o8 rfl
      have g59_8_o10 : o10.1 59 8 = o8.1 59 8 := by rw [e_o10]; rfl
      have lb10 : ∀ B, 0 ≤ B → LB i_o B → -(B + 14) ≤ x4 → LB o10 (B + 14) := by rw [e_o10]; exact lb8
      unfold b_X6_relax_96
      refine T_some ?_
      show (BoxC o10 ∧ (Fr [(64, 9999), (65, 9999)] i_o o10) ∧ (0 ≤ (x5 + 1) ∧ (x5 + 1) ≤ o10.1 59 8 + 1) ∧ (0 ≤ 1 ∧ 1 ≤ 1) ∧ (∀ B, 0 ≤ B → LB i_o B → -(B + 14) ≤ x4 → LB o10 (B + 14))) ∧ (o10.1 59 8 + 1 - (x5 + 1)).toNat < (o.1 59 8 + 1 - x5).toNat
      exact ⟨⟨hB_o10, fr_o10, (by omega), (by omega), (by first | assumption | exact (fun B _ h _ => LB.up h (by omega)))⟩, by omega⟩
    ·
      unfold b_X6_relax_96
      refine T_some ?_
      show (BoxC o ∧ (Fr [(64, 9999), (65, 9999)] i_o o) ∧ (0 ≤ (x5 + 1) ∧ (x5 + 1) ≤ o.1 59 8 + 1) ∧ (0 ≤ x2 ∧ x2 ≤ 1) ∧ (∀ B, 0 ≤ B → LB i_o B → -(B + 14) ≤ x4 → LB o (B + 14))) ∧ (o.1 59 8 + 1 - (x5 + 1)).toNat < (o.1 59 8 + 1 - x5).toNat
      exact ⟨⟨hB_o, fr_o, (by omega), (by omega), (by first | assumption | exact (fun B _ h _ => LB.up h (by omega)))⟩, by omega⟩
set_option maxRecDepth 20000 in
set_option maxHeartbeats 4000000 in
theorem tl_X6_relax_4 (x1 : Int) (i_o : OO) (i_x2 : Int) (i_x3 : Int) (hB_i_o : BoxC i_o) (k0 : 0 ≤ x1 ∧ x1 ≤ 39) (k1 : LB i_o 400000000) (v0 : 0 ≤ i_x3 ∧ i_x3 ≤ x1) (v1 : 0 ≤ i_x2 ∧ i_x2 ≤ 1) (v2 : ∀ B, 0 ≤ B → LB i_o B → LB i_o (B + 14 * i_x3)) : T (loopW (fun s => l_X6_relax_4 x1 s.1 s.2.1 s.2.2) (i_o, i_x2, i_x3)) (fun r => BoxC r.1 ∧ (Fr [(64, 9999), (65, 9999)] i_o r.1) ∧ (0 ≤ r.2 ∧ r.2 ≤ 1) ∧ (∀ B, 0 ≤ B → LB i_o B → LB r.1 (B + 560))) := by
  have fr_i_o : Fr [(64, 9999), (65, 9999)] i_o i_o := Fr.rf
  refine T_loop (fun s => BoxC s.1 ∧ (Fr [(64, 9999), (65, 9999)] i_o s.1) ∧ (0 ≤ s.2.2 ∧ s.2.2 ≤ x1) ∧ (0 ≤ s.2.1 ∧ s.2.1 ≤ 1) ∧ (∀ B, 0 ≤ B → LB i_o B → LB s.1 (B + 14 * s.2.2))) (fun s => (x1 - s.2.2).toNat) (by exact ⟨hB_i_o, fr_i_o, v0, v1, v2⟩) (fun s hs => ?_)
  obtain ⟨o, x2, x3⟩ := s
  replace hs : BoxC o ∧ (Fr [(64, 9999), (65, 9999)] i_o o) ∧ (0 ≤ x3 ∧ x3 ≤ x1) ∧ (0 ≤ x2 ∧ x2 ≤ 1) ∧ (∀ B, 0 ≤ B → LB i_o B → LB o (B + 14 * x3)) := hs
  obtain ⟨hB_o, fr_o, w0, w1, w2⟩ := hs
  have g59_8_i := bC_59_8 hB_i_o
  have g59_8_o : o.1 59 8 = i_o.1 59 8 := fr_o.1 59 8 rfl
  show T (l_X6_relax_4 x1 o x2 x3) _
  unfold l_X6_relax_4
  refine T_qLt ⟨by omega, by omega⟩ ⟨by omega, by omega⟩ (fun h5 => ?_) (fun h5 => ?_)
  ·
    refine T_qIn ⟨by omega, by omega⟩ ?_
    refine T_qNm (fun n12 e_n12 => ?_)
    have b_n12 : 0 ≤ n12 ∧ n12 ≤ 32 := by rw [e_n12]; exact bC_63 hB_o _
    refine T_qIn ⟨by omega, by omega⟩ ?_
    refine T_qNm (fun n14 e_n14 => ?_)
    have b_n14 : -2147483648 ≤ n14 ∧ n14 ≤ 2147483647 := by rw [e_n14]; exact bC_64 hB_o _
    have lb14 := w2 400000000 (by decide) (by assumption) n12.toNat (by omega)
    refine T_qIn ⟨by omega, by omega⟩ ?_
    refine T_qNm (fun n16 e_n16 => ?_)
    have b_n16 : 0 ≤ n16 ∧ n16 ≤ 32 := by rw [e_n16]; exact bC_63 hB_o _
    refine T_qB (t_X6_price o x3 n16 hB_o (by omega) (by omega)) (fun r17 hc_r17 hp6 => ?_)
    replace hp6 : (0 ≤ r17 ∧ r17 ≤ 14) ∧ (r17 = o.1 60 ((x3 * 33) + n16).toNat) := hp6
    have hps_hp6 := hp6
    obtain ⟨hp6_0, hp6_1⟩ := hps_hp6
    replace hp6 := hid hp6
    refine T_qNm (fun n19 e_n19 => ?_)
    unfold e_X6_relax_37
    refine T_qB (tl_X6_relax_37 x1 x3 n19 o x2 0 hB_o (by omega) (by omega) (by first | assumption | exact (w2 400000000 (by decide) (by assumption)).up (by omega)) (by omega) (by omega) (by omega) (by first | assumption | exact (fun B _ h _ => LB.up h (by omega)))) (fun r7 hc_r7 hp8 => ?_)
    obtain ⟨o_9, x2_10⟩ := r7
    replace hp8 : BoxC o_9 ∧ (Fr [(64, 9999), (65, 9999)] o o_9) ∧ (0 ≤ x2_10 ∧ x2_10 ≤ 1) ∧ (∀ B, 0 ≤ B → LB o B → -(B + 14) ≤ n19 → LB o_9 (B + 14)) := hp8
    have hps_hp8 := hp8
    obtain ⟨hp8_0, hp8_1, hp8_2, hp8_3⟩ := hps_hp8
    obtain ⟨hB_o_9, fc_o_9, hp8⟩ := hp8
    replace hp8 := hid hp8
    have fr_o_9 : Fr [(64, 9999), (65, 9999)] i_o o_9 := Fr.tr fr_o fc_o_9 rfl
    have g59_8_o_9 : o_9.1 59 8 = o.1 59 8 := fc_o_9.1 59 8 rfl
    show T (b_X6_relax_102 o_9 x1 x2_10 x3) _
    have ly9 : ∀ B, 0 ≤ B → LB o B → -(B + 14) ≤ n19 → LB o_9 (B + 14) := by assumption
    unfold b_X6_relax_102
    refine T_some ?_
    show (BoxC o_9 ∧ (Fr [(64, 9999), (65, 9999)] i_o o_9) ∧ (0 ≤ (x3 + 1) ∧ (x3 + 1) ≤ x1) ∧ (0 ≤ x2_10 ∧ x2_10 ≤ 1) ∧ (∀ B, 0 ≤ B → LB i_o B → LB o_9 (B + 14 * (x3 + 1)))) ∧ (x1 - (x3 + 1)).toNat < (x1 - x3).toNat
    exact ⟨⟨hB_o_9, fr_o_9, (by omega), (by omega), (by first | assumption | exact (fun B _ h => LB.up h (by omega)) | exact (fun B b0 h => (w2 B b0 h).up (by omega)) | exact (fun B b0 hB => (ly9 (B + 14 * x3) (by omega) (w2 B b0 hB) (by have q9 := w2 B b0 hB n12.toNat (by omega); omega)).up (by omega)))⟩, by omega⟩
  ·
    refine T_some ?_
    show BoxC o ∧ (Fr [(64, 9999), (65, 9999)] i_o o) ∧ (0 ≤ x2 ∧ x2 ≤ 1) ∧ (∀ B, 0 ≤ B → LB i_o B → LB o (B + 560))
    exact ⟨hB_o, fr_o, (by omega), (by first | assumption | exact (fun B _ h => LB.up h (by omega)) | exact (fun B b0 h => (w2 B b0 h).up (by omega)) | exact (fun B b0 hB => (ly9 (B + 14 * x3) (by omega) (w2 B b0 hB) (by have q9 := w2 B b0 hB n12.toNat (by omega); omega)).up (by omega)))⟩
set_option maxRecDepth 20000 in
set_option maxHeartbeats 4000000 in
theorem t_X6_relax (o : OO) (x1 : Int) (hB_o : BoxC o) (k0 : 0 ≤ x1 ∧ x1 ≤ 39) (k1 : LB o 400000000) : T (s_X6_relax o x1) (fun v => BoxC v.2 ∧ (Fr [(64, 9999), (65, 9999)] o v.2) ∧ (0 ≤ v.1 ∧ v.1 ≤ 1) ∧ (∀ B, 0 ≤ B → LB o B → LB v.2 (B + 560))) := by
  have fr_o : Fr [(64, 9999), (65, 9999)] o o := Fr.rf
  have g59_8_o := bC_59_8 hB_o
  unfold s_X6_relax
  unfold e_X6_relax_4
  refine T_qB (tl_X6_relax_4 x1 o 0 0 hB_o (by omega) (by first | assumption | exact (w2 400000000 (by decide) (by assumption)).up (by omega)) (by omega) (by omega) (by first | assumption | exact (fun B _ h => LB.up h (by omega)) | exact (fun B b0 h => (w2 B b0 h).up (by omega)) | exact (fun B b0 hB => (ly9 (B + 14 * x3) (by omega) (w2 B b0 hB) (by have q9 := w2 B b0 hB n12.toNat (by omega); omega)).up (by omega)))) (fun r11 hc_r11 hp12 => ?_)
  obtain ⟨o_13, x2_14⟩ := r11
  replace hp12 : BoxC o_13 ∧ (Fr [(64, 9999), (65, 9999)] o o_13) ∧ (0 ≤ x2_14 ∧ x2_14 ≤ 1) ∧ (∀ B, 0 ≤ B → LB o B → LB o_13 (B + 560)) := hp12
  have hps_hp12 := hp12
  obtain ⟨hp12_0, hp12_1, hp12_2, hp12_3⟩ := hps_hp12
  obtain ⟨hB_o_13, fc_o_13, hp12⟩ := hp12
  replace hp12 := hid hp12
  have fr_o_13 : Fr [(64, 9999), (65, 9999)] o o_13 := Fr.tr fr_o fc_o_13 rfl
  have g59_8_o_13 : o_13.1 59 8 = o.1 59 8 := fc_o_13.1 59 8 rfl
  show T (b_X6_relax_108 o_13 x2_14) _
  unfold b_X6_relax_108
  refine T_qZ (by omega) ?_
  refine T_some ?_
  show BoxC o_13 ∧ (Fr [(64, 9999), (65, 9999)] o o_13) ∧ (0 ≤ x2_14 ∧ x2_14 ≤ 1) ∧ (∀ B, 0 ≤ B → LB o B → LB o_13 (B + 560))
  exact ⟨hB_o_13, fr_o_13, (by omega), (by first | assumption | exact (fun B _ h => LB.up h (by omega)) | exact (fun B b0 h => (w2 B b0 h).up (by omega)) | exact (fun B b0 hB => (ly9 (B + 14 * x3) (by omega) (w2 B b0 hB) (by have q9 := w2 B b0 hB n12.toNat (by omega); omega)).up (by omega)))⟩
set_option maxRecDepth 20000 in
set_option maxHeartbeats 4000000 in
theorem tl_X6_cheapestWithRoom_7 (o : OO) (i_x1 : Int) (i_x2 : Int) (hB_o : BoxC o) (v0 : 0 ≤ i_x2 ∧ i_x2 ≤ o.1 59 8) (v1 : 0 ≤ i_x1 ∧ i_x1 ≤ o.1 59 8) : T (loopW (fun s => l_X6_cheapestWithRoom_7 o s.1 s.2) (i_x1, i_x2)) (fun r => (0 ≤ r ∧ r ≤ o.1 59 8)) := by
  refine T_loop (fun s => (0 ≤ s.2 ∧ s.2 ≤ o.1 59 8) ∧ (0 ≤ s.1 ∧ s.1 ≤ o.1 59 8)) (fun s => (o.1 59 8 - s.2).toNat) (by exact ⟨v0, v1⟩) (fun s hs => ?_)
  obtain ⟨x1, x2⟩ := s
  replace hs : (0 ≤ x2 ∧ x2 ≤ o.1 59 8) ∧ (0 ≤ x1 ∧ x1 ≤ o.1 59 8) := hs
  obtain ⟨w0, w1⟩ := hs
  have g59_8_o := bC_59_8 hB_o
  show T (l_X6_cheapestWithRoom_7 o x1 x2) _
  unfold l_X6_cheapestWithRoom_7
  refine T_qLt ⟨by omega, by omega⟩ ⟨by omega, by omega⟩ (fun h1 => ?_) (fun h1 => ?_)
  ·
    refine T_qIn ⟨by omega, by omega⟩ ?_
    refine T_qNm (fun n2 e_n2 => ?_)
    have b_n2 : -2147483648 ≤ n2 ∧ n2 ≤ 2147483647 := by rw [e_n2]; exact bC_61 hB_o _
    refine T_qLt ⟨by decide, by decide⟩ ⟨by omega, by omega⟩ (fun h2 => ?_) (fun h2 => ?_)
    ·
      refine T_qIn ⟨by omega, by omega⟩ ?_
      refine T_qNm (fun n4 e_n4 => ?_)
      have b_n4 : -2147483648 ≤ n4 ∧ n4 ≤ 2147483647 := by rw [e_n4]; exact bC_61 hB_o _
      refine T_qLt ⟨by omega, by omega⟩ ⟨by decide, by decide⟩ (fun h3 => ?_) (fun h3 => ?_)
      ·
        unfold b_X6_cheapestWithRoom_49
        unfold b_X6_cheapestWithRoom_51
        refine T_some ?_
        show ((0 ≤ (x2 + 1) ∧ (x2 + 1) ≤ o.1 59 8) ∧ (0 ≤ x2 ∧ x2 ≤ o.1 59 8)) ∧ (o.1 59 8 - (x2 + 1)).toNat < (o.1 59 8 - x2).toNat
        exact ⟨⟨(by omega), (by omega)⟩, by omega⟩
      ·
        refine T_qIn ⟨by omega, by omega⟩ ?_
        refine T_qNm (fun n6 e_n6 => ?_)
        have b_n6 : -2147483648 ≤ n6 ∧ n6 ≤ 2147483647 := by rw [e_n6]; exact bC_64 hB_o _
        refine T_qIn ⟨by omega, by omega⟩ ?_
        refine T_qNm (fun n8 e_n8 => ?_)
        have b_n8 : -2147483648 ≤ n8 ∧ n8 ≤ 2147483647 := by rw [e_n8]; exact bC_64 hB_o _
        refine T_qLt ⟨by omega, by omega⟩ ⟨by omega, by omega⟩ (fun h4 => ?_) (fun h4 => ?_)
        ·
          unfold b_X6_cheapestWithRoom_49
          unfold b_X6_cheapestWithRoom_51
          refine T_some ?_
          show ((0 ≤ (x2 + 1) ∧ (x2 + 1) ≤ o.1 59 8) ∧ (0 ≤ x2 ∧ x2 ≤ o.1 59 8)) ∧ (o.1 59 8 - (x2 + 1)).toNat < (o.1 59 8 - x2).toNat
          exact ⟨⟨(by omega), (by omega)⟩, by omega⟩
        ·
          unfold b_X6_cheapestWithRoom_51
          refine T_some ?_
          show ((0 ≤ (x2 + 1) ∧ (x2 + 1) ≤ o.1 59 8) ∧ (0 ≤ x1 ∧ x1 ≤ o.1 59 8)) ∧ (o.1 59 8 - (x2 + 1)).toNat < (o.1 59 8 - x2).toNat
          exact ⟨⟨(by omega), (by omega)⟩, by omega⟩
    ·
      unfold b_X6_cheapestWithRoom_51
      refine T_some ?_
      show ((0 ≤ (x2 + 1) ∧ (x2 + 1) ≤ o.1 59 8) ∧ (0 ≤ x1 ∧ x1 ≤ o.1 59 8)) ∧ (o.1 59 8 - (x2 + 1)).toNat < (o.1 59 8 - x2).toNat
      exact ⟨⟨(by omega), (by omega)⟩, by omega⟩
  ·
    refine T_some ?_
    show (0 ≤ x1 ∧ x1 ≤ o.1 59 8)
    exact (by omega)
set_option maxRecDepth 20000 in
set_option maxHeartbeats 4000000 in
theorem t_X6_cheapestWithRoom (o : OO) (hB_o : BoxC o) : T (s_X6_cheapestWithRoom o) (fun v => (0 ≤ v ∧ v ≤ o.1 59 8)) := by
  have g59_8_o := bC_59_8 hB_o
  unfold s_X6_cheapestWithRoom
  unfold e_X6_cheapestWithRoom_7
  refine T_qB (tl_X6_cheapestWithRoom_7 o (o.1 59 8) 0 hB_o (by omega) (by omega)) (fun r5 hc_r5 hp6 => ?_)
  obtain ⟨x1_7, q_x1_7⟩ : ∃ q, q = r5 := ⟨_, rfl⟩
  subst q_x1_7
  replace hp6 : (0 ≤ x1_7 ∧ x1_7 ≤ o.1 59 8) := hp6
  show T (b_X6_cheapestWithRoom_57 o x1_7) _
  unfold b_X6_cheapestWithRoom_57
  refine T_some ?_
  show (0 ≤ x1_7 ∧ x1_7 ≤ o.1 59 8)
  exact (by omega)
set_option maxRecDepth 20000 in
set_option maxHeartbeats 4000000 in
theorem tl_X6_insert_37 (x1 : Int) (i_o : OO) (i_x2 : Int) (hB_i_o : BoxC i_o) (k0 : 0 ≤ x1 ∧ x1 ≤ 39) (k1 : LB i_o 390000000) (v0 : 0 ≤ i_x2 ∧ i_x2 ≤ i_o.1 59 8 + 1) (v1 : ∀ B, 0 ≤ B → LB i_o B → LB i_o (B + 560 * i_x2)) : T (loopW (fun s => l_X6_insert_37 x1 s.1 s.2) (i_o, i_x2)) (Sum.elim (fun r => BoxC r ∧ (Fr [(64, 9999), (65, 9999)] i_o r) ∧ (∀ B, 0 ≤ B → LB i_o B → LB r (B + 18480))) (fun r => BoxC r ∧ (Fr [(64, 9999), (65, 9999)] i_o r) ∧ (∀ B, 0 ≤ B → LB i_o B → LB r (B + 18480)))) := by
  have fr_i_o : Fr [(64, 9999), (65, 9999)] i_o i_o := Fr.rf
  refine T_loop (fun s => BoxC s.1 ∧ (Fr [(64, 9999), (65, 9999)] i_o s.1) ∧ (0 ≤ s.2 ∧ s.2 ≤ s.1.1 59 8 + 1) ∧ (∀ B, 0 ≤ B → LB i_o B → LB s.1 (B + 560 * s.2))) (fun s => (s.1.1 59 8 + 1 - s.2).toNat) (by exact ⟨hB_i_o, fr_i_o, v0, v1⟩) (fun s hs => ?_)
  obtain ⟨o, x2⟩ := s
  replace hs : BoxC o ∧ (Fr [(64, 9999), (65, 9999)] i_o o) ∧ (0 ≤ x2 ∧ x2 ≤ o.1 59 8 + 1) ∧ (∀ B, 0 ≤ B → LB i_o B → LB o (B + 560 * x2)) := hs
  obtain ⟨hB_o, fr_o, w0, w1⟩ := hs
  have g59_8_i := bC_59_8 hB_i_o
  have g59_8_o : o.1 59 8 = i_o.1 59 8 := fr_o.1 59 8 rfl
  show T (l_X6_insert_37 x1 o x2) _
  unfold l_X6_insert_37
  refine T_qLt ⟨by omega, by omega⟩ ⟨by omega, by omega⟩ (fun h1 => ?_) (fun h1 => ?_)
  ·
    refine T_some ?_
    show BoxC o ∧ (Fr [(64, 9999), (65, 9999)] i_o o) ∧ (∀ B, 0 ≤ B → LB i_o B → LB o (B + 18480))
    exact ⟨hB_o, fr_o, (by first | assumption | exact (fun B _ h => h) | exact (fun B _ h => LB.up h (by omega)) | exact (fun B b0 h => (lb15 B b0 h).up (by omega)) | exact (fun B b0 h => (w1 B b0 h).up (by omega)) | exact (fun B b0 h => (lbf B b0 h).up (by omega)))⟩
  ·
    refine T_qB2 (t_X6_relax o x1 hB_o (by omega) (by first | assumption | exact lb2 390000000 (by decide) (by assumption) | exact (w1 390000000 (by decide) (by assumption)).up (by omega))) (fun r13 o15 hc_r13 hp2 => ?_)
    replace hp2 : BoxC o15 ∧ (Fr [(64, 9999), (65, 9999)] o o15) ∧ (0 ≤ r13 ∧ r13 ≤ 1) ∧ (∀ B, 0 ≤ B → LB o B → LB o15 (B + 560)) := hp2
    obtain ⟨hB_o15, fc_o15, hp2⟩ := hp2
    have fr_o15 : Fr [(64, 9999), (65, 9999)] i_o o15 := Fr.tr fr_o fc_o15 rfl
    have g59_8_o15 : o15.1 59 8 = o.1 59 8 := fc_o15.1 59 8 rfl
    have lb15 : ∀ B, 0 ≤ B → LB i_o B → LB o15 (B + 560 * (x2 + 1)) := fun B b0 hB => (hp2.2 _ (by omega) (w1 B b0 hB)).up (by omega)
    refine T_qEq ⟨by omega, by omega⟩ ⟨by decide, by decide⟩ (fun h3 => ?_) (fun h3 => ?_)
    ·
      refine T_some ?_
      show BoxC o15 ∧ (Fr [(64, 9999), (65, 9999)] i_o o15) ∧ (∀ B, 0 ≤ B → LB i_o B → LB o15 (B + 18480))
      exact ⟨hB_o15, fr_o15, (by first | assumption | exact (fun B _ h => h) | exact (fun B _ h => LB.up h (by omega)) | exact (fun B b0 h => (lb15 B b0 h).up (by omega)) | exact (fun B b0 h => (w1 B b0 h).up (by omega)) | exact (fun B b0 h => (lbf B b0 h).up (by omega)))⟩
    ·
      refine T_some ?_
      show (BoxC o15 ∧ (Fr [(64, 9999), (65, 9999)] i_o o15) ∧ (0 ≤ (x2 + 1) ∧ (x2 + 1) ≤ o15.1 59 8 + 1) ∧ (∀ B, 0 ≤ B → LB i_o B → LB o15 (B + 560 * (x2 + 1)))) ∧ (o15.1 59 8 + 1 - (x2 + 1)).toNat < (o.1 59 8 + 1 - x2).toNat
      exact ⟨⟨hB_o15, fr_o15, (by omega), (by first | assumption | exact (fun B _ h => h) | exact (fun B _ h => LB.up h (by omega)) | exact (fun B b0 h => (lb15 B b0 h).up (by omega)) | exact (fun B b0 h => (w1 B b0 h).up (by omega)) | exact (fun B b0 h => (lbf B b0 h).up (by omega)))⟩, by omega⟩
set_option maxRecDepth 20000 in
set_option maxHeartbeats 4000000 in
theorem tl_X6_insert_2 (x1 : Int) (i_o : OO) (i_x2 : Int) (hB_i_o : BoxC i_o) (k0 : 0 ≤ x1 ∧ x1 ≤ 39) (v0 : 0 ≤ i_x2 ∧ i_x2 ≤ i_o.1 59 8 + 1) (v1 : ∀ B, 0 ≤ B → LB i_o B → LB i_o B) : T (loopW (fun s => l_X6_insert_2 x1 s.1 s.2) (i_o, i_x2)) (fun r => BoxC r ∧ (Fr [(64, 9999), (65, 9999)] i_o r) ∧ (∀ B, 0 ≤ B → LB i_o B → LB r B)) := by
  have fr_i_o : Fr [(64, 9999), (65, 9999)] i_o i_o := Fr.rf
  refine T_loop (fun s => BoxC s.1 ∧ (Fr [(64, 9999), (65, 9999)] i_o s.1) ∧ (0 ≤ s.2 ∧ s.2 ≤ s.1.1 59 8 + 1) ∧ (∀ B, 0 ≤ B → LB i_o B → LB s.1 B)) (fun s => (s.1.1 59 8 + 1 - s.2).toNat) (by exact ⟨hB_i_o, fr_i_o, v0, v1⟩) (fun s hs => ?_)
  obtain ⟨o, x2⟩ := s
  replace hs : BoxC o ∧ (Fr [(64, 9999), (65, 9999)] i_o o) ∧ (0 ≤ x2 ∧ x2 ≤ o.1 59 8 + 1) ∧ (∀ B, 0 ≤ B → LB i_o B → LB o B) := hs
  obtain ⟨hB_o, fr_o, w0, w1⟩ := hs
  have g59_8_i := bC_59_8 hB_i_o
  have g59_8_o : o.1 59 8 = i_o.1 59 8 := fr_o.1 59 8 rfl
  show T (l_X6_insert_2 x1 o x2) _
  unfold l_X6_insert_2
  refine T_qLt ⟨by omega, by omega⟩ ⟨by omega, by omega⟩ (fun h4 => ?_) (fun h4 => ?_)
  ·
    refine T_some ?_
    show BoxC o ∧ (Fr [(64, 9999), (65, 9999)] i_o o) ∧ (∀ B, 0 ≤ B → LB i_o B → LB o B)
    exact ⟨hB_o, fr_o, (by first | assumption | exact (fun B _ h => h) | exact (fun B _ h => LB.up h (by omega)) | exact (fun B b0 h => (lb15 B b0 h).up (by omega)) | exact (fun B b0 h => (w1 B b0 h).up (by omega)) | exact (fun B b0 h => (lbf B b0 h).up (by omega)))⟩
  ·
    refine T_qB (t_X6_price o x1 x2 hB_o (by omega) (by omega)) (fun r16 hc_r16 hp5 => ?_)
    replace hp5 : (0 ≤ r16 ∧ r16 ≤ 14) ∧ (r16 = o.1 60 ((x1 * 33) + x2).toNat) := hp5
    have hps_hp5 := hp5
    obtain ⟨hp5_0, hp5_1⟩ := hps_hp5
    replace hp5 := hid hp5
    refine T_qIn ⟨by omega, by omega⟩ ?_
    refine T_qNm (fun o19 e_o19 => ?_)
    have hB_o19 : BoxC o19 := by rw [e_o19]; exact Box.s1 hB_o (show -2147483648 ≤ r16 ∧ r16 ≤ 2147483647 from ⟨by omega, by omega⟩)
    have fr_o19 : Fr [(64, 9999), (65, 9999)] i_o o19 := by rw [e_o19]; exact Fr.s1 fr_o rfl
    have g59_8_o19 : o19.1 59 8 = o.1 59 8 := by rw [e_o19]; rfl
    have lb19 : ∀ B, 0 ≤ B → LB i_o B → LB o19 B := fun B b0 h => LB_s4 (w1 B b0 h) b0 e_o19 (by omega)
    refine T_qIn ⟨by omega, by omega⟩ ?_
    refine T_qNm (fun o21 e_o21 => ?_)
    have hB_o21 : BoxC o21 := by rw [e_o21]; exact Box.s1 hB_o19 (show 0 ≤ x1 ∧ x1 ≤ 39 from ⟨by omega, by omega⟩)
    have fr_o21 : Fr [(64, 9999), (65, 9999)] i_o o21 := by rw [e_o21]; exact Fr.s1 fr_o19 rfl
    have g59_8_o21 : o21.1 59 8 = o19.1 59 8 := by rw [e_o21]; rfl
    have lb21 : ∀ B, 0 ≤ B → LB i_o B → LB o21 B := by rw [e_o21]; exact lb19
    refine T_some ?_
    show (BoxC o21 ∧ (Fr [(64, 9999), (65, 9999)] i_o o21) ∧ (0 ≤ (x2 + 1) ∧ (x2 + 1) ≤ o21.1 59 8 + 1) ∧ (∀ B, 0 ≤ B → LB i_o B → LB o21 B)) ∧ (o21.1 59 8 + 1 - (x2 + 1)).toNat < (o.1 59 8 + 1 - x2).toNat
    exact ⟨⟨hB_o21, fr_o21, (by omega), (by first | assumption | exact (fun B _ h => h) | exact (fun B _ h => LB.up h (by omega)) | exact (fun B b0 h => (lb15 B b0 h).up (by omega)) | exact (fun B b0 h => (w1 B b0 h).up (by omega)) | exact (fun B b0 h => (lbf B b0 h).up (by omega)))⟩, by omega⟩
set_option maxRecDepth 20000 in
set_option maxHeartbeats 4000000 in
theorem tl_X6_insert_79 (x1 : Int) (i_o : OO) (i_x2 : Int) (i_x3 : Int) (hB_i_o : BoxC i_o) (k0 : 0 ≤ x1 ∧ x1 ≤ 39) (v0 : 0 ≤ i_x2 ∧ i_x2 ≤ 32) (v1 : 0 ≤ i_x3 ∧ i_x3 ≤ i_o.1 59 8 + 1) : T (loopW (fun s => l_X6_insert_79 x1 s.1 s.2.1 s.2.2) (i_o, i_x2, i_x3)) (Sum.elim (fun r => BoxC r ∧ (Fr [(63, 9999)] i_o r)) (fun r => BoxC r ∧ (Fr [(63, 9999)] i_o r))) := by
  have fr_i_o : Fr [(63, 9999)] i_o i_o := Fr.rf
  refine T_loop (fun s => BoxC s.1 ∧ (Fr [(63, 9999)] i_o s.1) ∧ (0 ≤ s.2.1 ∧ s.2.1 ≤ 32) ∧ (0 ≤ s.2.2 ∧ s.2.2 ≤ s.1.1 59 8 + 1)) (fun s => (s.1.1 59 8 + 1 - s.2.2).toNat) (by exact ⟨hB_i_o, fr_i_o, v0, v1⟩) (fun s hs => ?_)
  obtain ⟨o, x2, x3⟩ := s
  replace hs : BoxC o ∧ (Fr [(63, 9999)] i_o o) ∧ (0 ≤ x2 ∧ x2 ≤ 32) ∧ (0 ≤ x3 ∧ x3 ≤ o.1 59 8 + 1) := hs
  obtain ⟨hB_o, fr_o, w0, w1⟩ := hs
  have g59_8_i := bC_59_8 hB_i_o
  have g59_8_o : o.1 59 8 = i_o.1 59 8 := fr_o.1 59 8 rfl
  show T (l_X6_insert_79 x1 o x2 x3) _
  unfold l_X6_insert_79
  refine T_qLt ⟨by omega, by omega⟩ ⟨by omega, by omega⟩ (fun h6 => ?_) (fun h6 => ?_)
  ·
    refine T_some ?_
    show BoxC o ∧ (Fr [(63, 9999)] i_o o)
    exact ⟨hB_o, fr_o⟩
  ·
    refine T_qIn ⟨by omega, by omega⟩ ?_
    refine T_qNm (fun n2 e_n2 => ?_)
    have b_n2 : 0 ≤ n2 ∧ n2 ≤ 39 := by rw [e_n2]; exact bC_65 hB_o _
    refine T_qIn ⟨by omega, by omega⟩ ?_
    refine T_qNm (fun n4 e_n4 => ?_)
    have b_n4 : 0 ≤ n4 ∧ n4 ≤ 32 := by rw [e_n4]; exact bC_63 hB_o _
    refine T_qIn ⟨by omega, by omega⟩ ?_
    refine T_qNm (fun o6 e_o6 => ?_)
    have hB_o6 : BoxC o6 := by rw [e_o6]; exact Box.s1 hB_o (show 0 ≤ x2 ∧ x2 ≤ 32 from ⟨by omega, by omega⟩)
    have fr_o6 : Fr [(63, 9999)] i_o o6 := by rw [e_o6]; exact Fr.s1 fr_o rfl
    have g59_8_o6 : o6.1 59 8 = o.1 59 8 := by rw [e_o6]; rfl
    refine T_qEq ⟨by omega, by omega⟩ ⟨by omega, by omega⟩ (fun h7 => ?_) (fun h7 => ?_)
    ·
      refine T_some ?_
      show BoxC o6 ∧ (Fr [(63, 9999)] i_o o6)
      exact ⟨hB_o6, fr_o6⟩
    ·
      refine T_some ?_
      show (BoxC o6 ∧ (Fr [(63, 9999)] i_o o6) ∧ (0 ≤ n4 ∧ n4 ≤ 32) ∧ (0 ≤ (x3 + 1) ∧ (x3 + 1) ≤ o6.1 59 8 + 1)) ∧ (o6.1 59 8 + 1 - (x3 + 1)).toNat < (o.1 59 8 + 1 - x3).toNat
      exact ⟨⟨hB_o6, fr_o6, (by omega), (by omega)⟩, by omega⟩
set_option maxRecDepth 20000 in
set_option maxHeartbeats 4000000 in
theorem t_X6_insert (o : OO) (x1 : Int) (hB_o : BoxC o) (k0 : 0 ≤ x1 ∧ x1 ≤ 39) (k1 : LB o 390000000) : T (s_X6_insert o x1) (fun v => BoxC v ∧ (Fr [(61, 9999), (63, 9999), (64, 9999), (65, 9999)] o v) ∧ (∀ B, 0 ≤ B → LB o B → LB v (B + 18500))) := by
  have fr_o : Fr [(61, 9999), (63, 9999), (64, 9999), (65, 9999)] o o := Fr.rf
  have g59_8_o := bC_59_8 hB_o
  unfold s_X6_insert
  unfold e_X6_insert_2
  refine T_qB (tl_X6_insert_2 x1 o 0 hB_o (by omega) (by omega) (by first | assumption | exact (fun B _ h => h) | exact (fun B _ h => LB.up h (by omega)) | exact (fun B b0 h => (lb15 B b0 h).up (by omega)) | exact (fun B b0 h => (w1 B b0 h).up (by omega)) | exact (fun B b0 h => (lbf B b0 h).up (by omega)))) (fun r8 hc_r8 hp9 => ?_)
  obtain ⟨o_10, q_o_10⟩ : ∃ q, q = r8 := ⟨_, rfl⟩
  subst q_o_10
  replace hp9 : BoxC o_10 ∧ (Fr [(64, 9999), (65, 9999)] o o_10) ∧ (∀ B, 0 ≤ B → LB o B → LB o_10 B) := hp9
  have hps_hp9 := hp9
  obtain ⟨hp9_0, hp9_1, hp9_2⟩ := hps_hp9
  obtain ⟨hB_o_10, fc_o_10, hp9⟩ := hp9
  replace hp9 := hid hp9
  have fr_o_10 : Fr [(61, 9999), (63, 9999), (64, 9999), (65, 9999)] o o_10 := Fr.tr fr_o fc_o_10 rfl
  have g59_8_o_10 : o_10.1 59 8 = o.1 59 8 := fc_o_10.1 59 8 rfl
  show T (b_X6_insert_35 o_10 x1) _
  have lb2 : ∀ B, 0 ≤ B → LB o B → LB o_10 B := by assumption
  unfold b_X6_insert_35
  unfold e_X6_insert_37
  refine T_qB (tl_X6_insert_37 x1 o_10 0 hB_o_10 (by omega) (by first | assumption | exact lb2 390000000 (by decide) (by assumption) | exact (w1 390000000 (by decide) (by assumption)).up (by omega)) (by omega) (by first | assumption | exact (fun B _ h => h) | exact (fun B _ h => LB.up h (by omega)) | exact (fun B b0 h => (lb15 B b0 h).up (by omega)) | exact (fun B b0 h => (w1 B b0 h).up (by omega)) | exact (fun B b0 h => (lbf B b0 h).up (by omega)))) (fun r11 hc_r11 hp12 => ?_)
  rcases r11 with r11 | r11
  ·
    obtain ⟨o_13, q_o_13⟩ : ∃ q, q = r11 := ⟨_, rfl⟩
    subst q_o_13
    replace hp12 : BoxC o_13 ∧ (Fr [(64, 9999), (65, 9999)] o_10 o_13) ∧ (∀ B, 0 ≤ B → LB o_10 B → LB o_13 (B + 18480)) := hp12
    have hps_hp12 := hp12
    obtain ⟨hp12_0, hp12_1, hp12_2⟩ := hps_hp12
    obtain ⟨hB_o_13, fc_o_13, hp12⟩ := hp12
    replace hp12 := hid hp12
    have fr_o_13 : Fr [(61, 9999), (63, 9999), (64, 9999), (65, 9999)] o o_13 := Fr.tr fr_o_10 fc_o_13 rfl
    have g59_8_o_13 : o_13.1 59 8 = o_10.1 59 8 := fc_o_13.1 59 8 rfl
    show T (b_X6_insert_53 o_13 x1) _
    have lb37 : ∀ B, 0 ≤ B → LB o_10 B → LB o_13 (B + 18480) := by assumption
    have lbk := fun (B : Int) (b0 : 0 ≤ B) (h : _) => lb37 B b0 (lb2 B b0 h)
    unfold b_X6_insert_53
    unfold b_X6_insert_62
    refine T_qB (t_X6_cheapestWithRoom o_13 hB_o_13) (fun r7 hc_r7 hp14 => ?_)
    replace hp14 : (0 ≤ r7 ∧ r7 ≤ o_13.1 59 8) := hp14
    refine T_qIn ⟨by omega, by omega⟩ ?_
    refine T_qNm (fun n10 e_n10 => ?_)
    have b_n10 : -2147483648 ≤ n10 ∧ n10 ≤ 2147483647 := by rw [e_n10]; exact bC_61 hB_o_13 _
    have lq10 := lbk 390000000 (by decide) (by assumption) r7.toNat (by omega)
    refine T_qIn ⟨by omega, by omega⟩ ?_
    refine T_qNm (fun o12 e_o12 => ?_)
    have hB_o12 : BoxC o12 := by rw [e_o12]; exact Box.s1 hB_o_13 (show -2147483648 ≤ (n10 - 1) ∧ (n10 - 1) ≤ 2147483647 from ⟨by omega, by omega⟩)
    have fr_o12 : Fr [(61, 9999), (63, 9999), (64, 9999), (65, 9999)] o o12 := by rw [e_o12]; exact Fr.s1 fr_o_13 rfl
    have g59_8_o12 : o12.1 59 8 = o_13.1 59 8 := by rw [e_o12]; rfl
    have lb12 := fun (B : Int) (b0 : 0 ≤ B) (h : _) => LB_dec (lbk B b0 h) e_o12 e_n10 (by omega)
    unfold e_X6_insert_79
    refine T_qB (tl_X6_insert_79 x1 o12 r7 0 hB_o12 (by omega) (by omega) (by omega)) (fun r15 hc_r15 hp16 => ?_)
    rcases r15 with r15 | r15
    ·
      obtain ⟨o_17, q_o_17⟩ : ∃ q, q = r15 := ⟨_, rfl⟩
      subst q_o_17
      replace hp16 : BoxC o_17 ∧ (Fr [(63, 9999)] o12 o_17) := hp16
      have hps_hp16 := hp16
      obtain ⟨hp16_0, hp16_1⟩ := hps_hp16
      obtain ⟨hB_o_17, fc_o_17⟩ := hp16
      have fr_o_17 : Fr [(61, 9999), (63, 9999), (64, 9999), (65, 9999)] o o_17 := Fr.tr fr_o12 fc_o_17 rfl
      have g59_8_o_17 : o_17.1 59 8 = o12.1 59 8 := fc_o_17.1 59 8 rfl
      show T (b_X6_insert_118 o_17) _
      have lbf := fun (B : Int) (b0 : 0 ≤ B) (h : _) => LB.cg (fun j => fc_o_17.1 64 j rfl) (fun j => fc_o_17.1 61 j rfl) (lb12 B b0 h)
      unfold b_X6_insert_118
      unfold b_X6_insert_130
      refine T_some ?_
      show BoxC o_17 ∧ (Fr [(61, 9999), (63, 9999), (64, 9999), (65, 9999)] o o_17) ∧ (∀ B, 0 ≤ B → LB o B → LB o_17 (B + 18500))
      exact ⟨hB_o_17, fr_o_17, (by first | assumption | exact (fun B _ h => h) | exact (fun B _ h => LB.up h (by omega)) | exact (fun B b0 h => (lb15 B b0 h).up (by omega)) | exact (fun B b0 h => (w1 B b0 h).up (by omega)) | exact (fun B b0 h => (lbf B b0 h).up (by omega)))⟩
    ·
      obtain ⟨o_18, q_o_18⟩ : ∃ q, q = r15 := ⟨_, rfl⟩
      subst q_o_18
      replace hp16 : BoxC o_18 ∧ (Fr [(63, 9999)] o12 o_18) := hp16
      have hps_hp16 := hp16
      obtain ⟨hp16_0, hp16_1⟩ := hps_hp16
      obtain ⟨hB_o_18, fc_o_18⟩ := hp16
      have fr_o_18 : Fr [(61, 9999), (63, 9999), (64, 9999), (65, 9999)] o o_18 := Fr.tr fr_o12 fc_o_18 rfl
      have g59_8_o_18 : o_18.1 59 8 = o12.1 59 8 := fc_o_18.1 59 8 rfl
      show T (b_X6_insert_130 o_18) _
      have lbf := fun (B : Int) (b0 : 0 ≤ B) (h : _) => LB.cg (fun j => fc_o_18.1 64 j rfl) (fun j => fc_o_18.1 61 j rfl) (lb12 B b0 h)
      unfold b_X6_insert_130
      refine T_some ?_
      show BoxC o_18 ∧ (Fr [(61, 9999), (63, 9999), (64, 9999), (65, 9999)] o o_18) ∧ (∀ B, 0 ≤ B → LB o B → LB o_18 (B + 18500))
      exact ⟨hB_o_18, fr_o_18, (by first | assumption | exact (fun B _ h => h) | exact (fun B _ h => LB.up h (by omega)) | exact (fun B b0 h => (lb15 B b0 h).up (by omega)) | exact (fun B b0 h => (w1 B b0 h).up (by omega)) | exact (fun B b0 h => (lbf B b0 h).up (by omega)))⟩
  ·
    obtain ⟨o_19, q_o_19⟩ : ∃ q, q = r11 := ⟨_, rfl⟩
    subst q_o_19
    replace hp12 : BoxC o_19 ∧ (Fr [(64, 9999), (65, 9999)] o_10 o_19) ∧ (∀ B, 0 ≤ B → LB o_10 B → LB o_19 (B + 18480)) := hp12
    have hps_hp12 := hp12
    obtain ⟨hp12_0, hp12_1, hp12_2⟩ := hps_hp12
    obtain ⟨hB_o_19, fc_o_19, hp12⟩ := hp12
    replace hp12 := hid hp12
    have fr_o_19 : Fr [(61, 9999), (63, 9999), (64, 9999), (65, 9999)] o o_19 := Fr.tr fr_o_10 fc_o_19 rfl
    have g59_8_o_19 : o_19.1 59 8 = o_10.1 59 8 := fc_o_19.1 59 8 rfl
    show T (b_X6_insert_62 o_19 x1) _
    have lb37 : ∀ B, 0 ≤ B → LB o_10 B → LB o_19 (B + 18480) := by assumption
    have lbk := fun (B : Int) (b0 : 0 ≤ B) (h : _) => lb37 B b0 (lb2 B b0 h)
    unfold b_X6_insert_62
    refine T_qB (t_X6_cheapestWithRoom o_19 hB_o_19) (fun r7 hc_r7 hp20 => ?_)
    replace hp20 : (0 ≤ r7 ∧ r7 ≤ o_19.1 59 8) := hp20
    refine T_qIn ⟨by omega, by omega⟩ ?_
    refine T_qNm (fun n10 e_n10 => ?_)
    have b_n10 : -2147483648 ≤ n10 ∧ n10 ≤ 2147483647 := by rw [e_n10]; exact bC_61 hB_o_19 _
    have lq10 := lbk 390000000 (by decide) (by assumption) r7.toNat (by omega)
    refine T_qIn ⟨by omega, by omega⟩ ?_
    refine T_qNm (fun o12 e_o12 => ?_)
    have hB_o12 : BoxC o12 := by rw [e_o12]; exact Box.s1 hB_o_19 (show -2147483648 ≤ (n10 - 1) ∧ (n10 - 1) ≤ 2147483647 from ⟨by omega, by omega⟩)
    have fr_o12 : Fr [(61, 9999), (63, 9999), (64, 9999), (65, 9999)] o o12 := by rw [e_o12]; exact Fr.s1 fr_o_19 rfl
    have g59_8_o12 : o12.1 59 8 = o_19.1 59 8 := by rw [e_o12]; rfl
    have lb12 := fun (B : Int) (b0 : 0 ≤ B) (h : _) => LB_dec (lbk B b0 h) e_o12 e_n10 (by omega)
    unfold e_X6_insert_79
    refine T_qB (tl_X6_insert_79 x1 o12 r7 0 hB_o12 (by omega) (by omega) (by omega)) (fun r21 hc_r21 hp22 => ?_)
    rcases r21 with r21 | r21
    ·
      obtain ⟨o_23, q_o_23⟩ : ∃ q, q = r21 := ⟨_, rfl⟩
      subst q_o_23
      replace hp22 : BoxC o_23 ∧ (Fr [(63, 9999)] o12 o_23) := hp22
      have hps_hp22 := hp22
      obtain ⟨hp22_0, hp22_1⟩ := hps_hp22
      obtain ⟨hB_o_23, fc_o_23⟩ := hp22
      have fr_o_23 : Fr [(61, 9999), (63, 9999), (64, 9999), (65, 9999)] o o_23 := Fr.tr fr_o12 fc_o_23 rfl
      have g59_8_o_23 : o_23.1 59 8 = o12.1 59 8 := fc_o_23.1 59 8 rfl
      show T (b_X6_insert_118 o_23) _
      have lbf := fun (B : Int) (b0 : 0 ≤ B) (h : _) => LB.cg (fun j => fc_o_23.1 64 j rfl) (fun j => fc_o_23.1 61 j rfl) (lb12 B b0 h)
      unfold b_X6_insert_118
      unfold b_X6_insert_130
      refine T_some ?_
      show BoxC o_23 ∧ (Fr [(61, 9999), (63, 9999), (64, 9999), (65, 9999)] o o_23) ∧ (∀ B, 0 ≤ B → LB o B → LB o_23 (B + 18500))
      exact ⟨hB_o_23, fr_o_23, (by first | assumption | exact (fun B _ h => h) | exact (fun B _ h => LB.up h (by omega)) | exact (fun B b0 h => (lb15 B b0 h).up (by omega)) | exact (fun B b0 h => (w1 B b0 h).up (by omega)) | exact (fun B b0 h => (lbf B b0 h).up (by omega)))⟩
    ·
      obtain ⟨o_24, q_o_24⟩ : ∃ q, q = r21 := ⟨_, rfl⟩
      subst q_o_24
      replace hp22 : BoxC o_24 ∧ (Fr [(63, 9999)] o12 o_24) := hp22
      have hps_hp22 := hp22
      obtain ⟨hp22_0, hp22_1⟩ := hps_hp22
      obtain ⟨hB_o_24, fc_o_24⟩ := hp22
      have fr_o_24 : Fr [(61, 9999), (63, 9999), (64, 9999), (65, 9999)] o o_24 := Fr.tr fr_o12 fc_o_24 rfl
      have g59_8_o_24 : o_24.1 59 8 = o12.1 59 8 := fc_o_24.1 59 8 rfl
      show T (b_X6_insert_130 o_24) _
      have lbf := fun (B : Int) (b0 : 0 ≤ B) (h : _) => LB.cg (fun j => fc_o_24.1 64 j rfl) (fun j => fc_o_24.1 61 j rfl) (lb12 B b0 h)
      unfold b_X6_insert_130
      refine T_some ?_
      show BoxC o_24 ∧ (Fr [(61, 9999), (63, 9999), (64, 9999), (65, 9999)] o o_24) ∧ (∀ B, 0 ≤ B → LB o B → LB o_24 (B + 18500))
      exact ⟨hB_o_24, fr_o_24, (by first | assumption | exact (fun B _ h => h) | exact (fun B _ h => LB.up h (by omega)) | exact (fun B b0 h => (lb15 B b0 h).up (by omega)) | exact (fun B b0 h => (w1 B b0 h).up (by omega)) | exact (fun B b0 h => (lbf B b0 h).up (by omega)))⟩
set_option maxRecDepth 20000 in
set_option maxHeartbeats 4000000 in
theorem tl_X6_lead_54 (x6 : Int) (i_o : OO) (i_x7 : Int) (hB_i_o : BoxC i_o) (k0 : 0 ≤ x6 ∧ x6 ≤ 40) (k1 : LB i_o 380000000) (v0 : 0 ≤ i_x7 ∧ i_x7 ≤ x6) (v1 : ∀ B, 0 ≤ B → LB i_o B → LB i_o (B + 18500 * i_x7)) : T (loopW (fun s => l_X6_lead_54 x6 s.1 s.2) (i_o, i_x7)) (fun r => BoxC r ∧ (Fr [(61, 9999), (63, 9999), (64, 9999), (65, 9999)] i_o r) ∧ (∀ B, 0 ≤ B → LB i_o B → LB r (B + 740000))) := by
  have fr_i_o : Fr [(61, 9999), (63, 9999), (64, 9999), (65, 9999)] i_o i_o := Fr.rf
  refine T_loop (fun s => BoxC s.1 ∧ (Fr [(61, 9999), (63, 9999), (64, 9999), (65, 9999)] i_o s.1) ∧ (0 ≤ s.2 ∧ s.2 ≤ x6) ∧ (∀ B, 0 ≤ B → LB i_o B → LB s.1 (B + 18500 * s.2))) (fun s => (x6 - s.2).toNat) (by exact ⟨hB_i_o, fr_i_o, v0, v1⟩) (fun s hs => ?_)
  obtain ⟨o, x7⟩ := s
  replace hs : BoxC o ∧ (Fr [(61, 9999), (63, 9999), (64, 9999), (65, 9999)] i_o o) ∧ (0 ≤ x7 ∧ x7 ≤ x6) ∧ (∀ B, 0 ≤ B → LB i_o B → LB o (B + 18500 * x7)) := hs
  obtain ⟨hB_o, fr_o, w0, w1⟩ := hs
  have g59_1_i := bC_59_1 hB_i_o
  have g59_1_o : o.1 59 1 = i_o.1 59 1 := fr_o.1 59 1 rfl
  have g59_8_i := bC_59_8 hB_i_o
  have g59_8_o : o.1 59 8 = i_o.1 59 8 := fr_o.1 59 8 rfl
  show T (l_X6_lead_54 x6 o x7) _
  unfold l_X6_lead_54
  refine T_qLt ⟨by omega, by omega⟩ ⟨by omega, by omega⟩ (fun h1 => ?_) (fun h1 => ?_)
  ·
    refine T_qB (t_X6_insert o x7 hB_o (by omega) (by first | assumption | exact lbd 380000000 (by decide) (by assumption) | exact (w1 380000000 (by decide) (by assumption)).up (by omega))) (fun o9 hc_o9 hp2 => ?_)
    replace hp2 : BoxC o9 ∧ (Fr [(61, 9999), (63, 9999), (64, 9999), (65, 9999)] o o9) ∧ (∀ B, 0 ≤ B → LB o B → LB o9 (B + 18500)) := hp2
    obtain ⟨hB_o9, fc_o9, hp2⟩ := hp2
    have fr_o9 : Fr [(61, 9999), (63, 9999), (64, 9999), (65, 9999)] i_o o9 := Fr.tr fr_o fc_o9 rfl
    have g59_1_o9 : o9.1 59 1 = o.1 59 1 := fc_o9.1 59 1 rfl
    have g59_8_o9 : o9.1 59 8 = o.1 59 8 := fc_o9.1 59 8 rfl
    have lb9 : ∀ B, 0 ≤ B → LB i_o B → LB o9 (B + 18500 * (x7 + 1)) := fun B b0 hB => (hp2 _ (by omega) (w1 B b0 hB)).up (by omega)
    refine T_some ?_
    show (BoxC o9 ∧ (Fr [(61, 9999), (63, 9999), (64, 9999), (65, 9999)] i_o o9) ∧ (0 ≤ (x7 + 1) ∧ (x7 + 1) ≤ x6) ∧ (∀ B, 0 ≤ B → LB i_o B → LB o9 (B + 18500 * (x7 + 1)))) ∧ (x6 - (x7 + 1)).toNat < (x6 - x7).toNat
    exact ⟨⟨hB_o9, fr_o9, (by omega), (by first | assumption | exact (fun B _ h => LB.up h (by omega)) | exact (fun B b0 h => (w1 B b0 h).up (by omega)) | exact (fun B b0 h => lbg B b0 h))⟩, by omega⟩
  ·
    refine T_some ?_
    show BoxC o ∧ (Fr [(61, 9999), (63, 9999), (64, 9999), (65, 9999)] i_o o) ∧ (∀ B, 0 ≤ B → LB i_o B → LB o (B + 740000))
    exact ⟨hB_o, fr_o, (by first | assumption | exact (fun B _ h => LB.up h (by omega)) | exact (fun B b0 h => (w1 B b0 h).up (by omega)) | exact (fun B b0 h => lbg B b0 h))⟩
set_option maxRecDepth 20000 in
set_option maxHeartbeats 4000000 in
theorem tl_X6_lead_81 (x6 : Int) (i_o : OO) (i_x7 : Int) (hB_i_o : BoxC i_o) (k0 : 0 ≤ x6 ∧ x6 ≤ 40) (v0 : 0 ≤ i_x7 ∧ i_x7 ≤ x6) (v1 : 0 ≤ i_o.1 59 1 ∧ i_o.1 59 1 ≤ 14 * i_x7) : T (loopW (fun s => l_X6_lead_81 x6 s.1 s.2) (i_o, i_x7)) (fun r => BoxC r ∧ (Fr [(59, 1)] i_o r)) := by
  have fr_i_o : Fr [(59, 1)] i_o i_o := Fr.rf
  refine T_loop (fun s => BoxC s.1 ∧ (Fr [(59, 1)] i_o s.1) ∧ (0 ≤ s.2 ∧ s.2 ≤ x6) ∧ (0 ≤ s.1.1 59 1 ∧ s.1.1 59 1 ≤ 14 * s.2)) (fun s => (x6 - s.2).toNat) (by exact ⟨hB_i_o, fr_i_o, v0, v1⟩) (fun s hs => ?_)
  obtain ⟨o, x7⟩ := s
  replace hs : BoxC o ∧ (Fr [(59, 1)] i_o o) ∧ (0 ≤ x7 ∧ x7 ≤ x6) ∧ (0 ≤ o.1 59 1 ∧ o.1 59 1 ≤ 14 * x7) := hs
  obtain ⟨hB_o, fr_o, w0, w1⟩ := hs
  have g59_1_i := bC_59_1 hB_i_o
  have g59_1_o := bC_59_1 hB_o
  have g59_8_i := bC_59_8 hB_i_o
  have g59_8_o : o.1 59 8 = i_o.1 59 8 := fr_o.1 59 8 rfl
  show T (l_X6_lead_81 x6 o x7) _
  unfold l_X6_lead_81
  refine T_qLt ⟨by omega, by omega⟩ ⟨by omega, by omega⟩ (fun h3 => ?_) (fun h3 => ?_)
  ·
    refine T_qIn ⟨by omega, by omega⟩ ?_
    refine T_qNm (fun n2 e_n2 => ?_)
    have b_n2 : 0 ≤ n2 ∧ n2 ≤ 32 := by rw [e_n2]; exact bC_63 hB_o _
    refine T_qB (t_X6_price o x7 n2 hB_o (by omega) (by omega)) (fun r3 hc_r3 hp4 => ?_)
    replace hp4 : (0 ≤ r3 ∧ r3 ≤ 14) ∧ (r3 = o.1 60 ((x7 * 33) + n2).toNat) := hp4
    have hps_hp4 := hp4
    obtain ⟨hp4_0, hp4_1⟩ := hps_hp4
    replace hp4 := hid hp4
    refine T_qNm (fun o5 e_o5 => ?_)
    have hB_o5 : BoxC o5 := by rw [e_o5]; exact Box.s1 hB_o (show -2147483648 ≤ ((o.1 59 1) + r3) ∧ ((o.1 59 1) + r3) ≤ 2147483647 from ⟨by omega, by omega⟩)
    have fr_o5 : Fr [(59, 1)] i_o o5 := by rw [e_o5]; exact Fr.s1 fr_o rfl
    have g59_1_o5 : o5.1 59 1 = ((o.1 59 1) + r3) := by rw [e_o5]; rfl
    have g59_8_o5 : o5.1 59 8 = o.1 59 8 := by rw [e_o5]; rfl
    refine T_some ?_
    show (BoxC o5 ∧ (Fr [(59, 1)] i_o o5) ∧ (0 ≤ (x7 + 1) ∧ (x7 + 1) ≤ x6) ∧ (0 ≤ o5.1 59 1 ∧ o5.1 59 1 ≤ 14 * (x7 + 1))) ∧ (x6 - (x7 + 1)).toNat < (x6 - x7).toNat
    exact ⟨⟨hB_o5, fr_o5, (by omega), (by omega)⟩, by omega⟩
  ·
    refine T_some ?_
    show BoxC o ∧ (Fr [(59, 1)] i_o o)
    exact ⟨hB_o, fr_o⟩
set_option maxRecDepth 20000 in
set_option maxHeartbeats 4000000 in
theorem t_X6_lead (o : OO) (z3 : Int64) (hB_o : BoxC o) (k0 : LB o 380000000) : T (s_X6_lead o z3) (fun v => BoxC v ∧ (Fr [(59, 0), (59, 1), (59, 8), (60, 9999), (61, 9999), (62, 9999), (63, 9999), (64, 9999), (65, 9999)] o v) ∧ (∀ B, 0 ≤ B → LB o B → LB v (B + 740000))) := by
  have fr_o : Fr [(59, 0), (59, 1), (59, 8), (60, 9999), (61, 9999), (62, 9999), (63, 9999), (64, 9999), (65, 9999)] o o := Fr.rf
  have g59_1_o := bC_59_1 hB_o
  have g59_8_o := bC_59_8 hB_o
  unfold s_X6_lead
  refine T_qB2 (t_X6_listHouses o z3 hB_o) (fun r10 o12 hc_r10 hp5 => ?_)
  replace hp5 : BoxC o12 ∧ (Fr [(59, 8), (61, 9999), (62, 9999)] o o12) ∧ (0 ≤ r10 ∧ r10 ≤ 640) ∧ (∀ B, 0 ≤ B → LB o B → LB o12 B) := hp5
  obtain ⟨hB_o12, fc_o12, hp5⟩ := hp5
  have fr_o12 : Fr [(59, 0), (59, 1), (59, 8), (60, 9999), (61, 9999), (62, 9999), (63, 9999), (64, 9999), (65, 9999)] o o12 := Fr.tr fr_o fc_o12 rfl
  have g59_1_o12 : o12.1 59 1 = o.1 59 1 := fc_o12.1 59 1 rfl
  have g59_8_o12 := bC_59_8 hB_o12
  have lba := hp5.2
  refine T_qB2 (t_X6_listPeople o12 z3 hB_o12) (fun r13 o15 hc_r13 hp6 => ?_)
  replace hp6 : BoxC o15 ∧ (Fr [(60, 9999)] o12 o15) ∧ (0 ≤ r13 ∧ r13 ≤ 40) := hp6
  obtain ⟨hB_o15, fc_o15, hp6⟩ := hp6
  have fr_o15 : Fr [(59, 0), (59, 1), (59, 8), (60, 9999), (61, 9999), (62, 9999), (63, 9999), (64, 9999), (65, 9999)] o o15 := Fr.tr fr_o12 fc_o15 rfl
  have g59_1_o15 : o15.1 59 1 = o12.1 59 1 := fc_o15.1 59 1 rfl
  have g59_8_o15 : o15.1 59 8 = o12.1 59 8 := fc_o15.1 59 8 rfl
  have lbb := fun (B : Int) (b0 : 0 ≤ B) (h : _) => LB.cg (fun j => fc_o15.1 64 j rfl) (fun j => fc_o15.1 61 j rfl) (lba B b0 h)
  refine T_qR ⟨by decide, by decide⟩ ?_
  refine T_qR ⟨by omega, by omega⟩ ?_
  refine T_qIn ⟨by omega, by omega⟩ ?_
  refine T_qNm (fun o19 e_o19 => ?_)
  have hB_o19 : BoxC o19 := by rw [e_o19]; exact Box.s1 hB_o15 (show -2147483648 ≤ (max 0 (r13 - r10)) ∧ (max 0 (r13 - r10)) ≤ 2147483647 from ⟨by omega, by omega⟩)
  have fr_o19 : Fr [(59, 0), (59, 1), (59, 8), (60, 9999), (61, 9999), (62, 9999), (63, 9999), (64, 9999), (65, 9999)] o o19 := by rw [e_o19]; exact Fr.s1 fr_o15 rfl
  have g59_1_o19 : o19.1 59 1 = o15.1 59 1 := by rw [e_o19]; rfl
  have g59_8_o19 : o19.1 59 8 = o15.1 59 8 := by rw [e_o19]; rfl
  have lbc := fun (B : Int) (b0 : 0 ≤ B) (h : _) => LB_st (lbb B b0 h) b0 e_o19 (by omega)
  refine T_qIn ⟨by omega, by omega⟩ ?_
  refine T_qNm (fun n21 e_n21 => ?_)
  have b_n21 : -2147483648 ≤ n21 ∧ n21 ≤ 2147483647 := by rw [e_n21]; exact bC_61 hB_o19 _
  have q21 : n21 = max 0 (r13 - r10) := by rw [e_n21, e_o19]; exact st1_eq (o := o15) (c := 61) (i := (o15.1 59 8).toNat)
  refine T_qNm (fun o22 e_o22 => ?_)
  have hB_o22 : BoxC o22 := by rw [e_o22]; exact Box.s1 hB_o19 (show -2147483648 ≤ (r13 - n21) ∧ (r13 - n21) ≤ 2147483647 from ⟨by omega, by omega⟩)
  have fr_o22 : Fr [(59, 0), (59, 1), (59, 8), (60, 9999), (61, 9999), (62, 9999), (63, 9999), (64, 9999), (65, 9999)] o o22 := by rw [e_o22]; exact Fr.s1 fr_o19 rfl
  have g59_1_o22 : o22.1 59 1 = o19.1 59 1 := by rw [e_o22]; rfl
  have g59_8_o22 : o22.1 59 8 = o19.1 59 8 := by rw [e_o22]; rfl
  have lbd := fun (B : Int) (b0 : 0 ≤ B) (h : _) => LB.cg (o' := o22) (fun j => by rw [e_o22]; rfl) (fun j => by rw [e_o22]; rfl) (lbc B b0 h)
  unfold e_X6_lead_54
  refine T_qB (tl_X6_lead_54 r13 o22 0 hB_o22 (by omega) (by first | assumption | exact lbd 380000000 (by decide) (by assumption) | exact (w1 380000000 (by decide) (by assumption)).up (by omega)) (by omega) (by first | assumption | exact (fun B _ h => LB.up h (by omega)) | exact (fun B b0 h => (w1 B b0 h).up (by omega)) | exact (fun B b0 h => lbg B b0 h))) (fun r7 hc_r7 hp8 => ?_)
  obtain ⟨o_9, q_o_9⟩ : ∃ q, q = r7 := ⟨_, rfl⟩
  subst q_o_9
  replace hp8 : BoxC o_9 ∧ (Fr [(61, 9999), (63, 9999), (64, 9999), (65, 9999)] o22 o_9) ∧ (∀ B, 0 ≤ B → LB o22 B → LB o_9 (B + 740000)) := hp8
  have hps_hp8 := hp8
  obtain ⟨hp8_0, hp8_1, hp8_2⟩ := hps_hp8
  obtain ⟨hB_o_9, fc_o_9, hp8⟩ := hp8
  replace hp8 := hid hp8
  have fr_o_9 : Fr [(59, 0), (59, 1), (59, 8), (60, 9999), (61, 9999), (62, 9999), (63, 9999), (64, 9999), (65, 9999)] o o_9 := Fr.tr fr_o22 fc_o_9 rfl
  have g59_1_o_9 : o_9.1 59 1 = o22.1 59 1 := fc_o_9.1 59 1 rfl
  have g59_8_o_9 : o_9.1 59 8 = o22.1 59 8 := fc_o_9.1 59 8 rfl
  show T (b_X6_lead_73 o_9 r13) _
  have lb54 : ∀ B, 0 ≤ B → LB o22 B → LB o_9 (B + 740000) := by assumption
  have lbe := fun (B : Int) (b0 : 0 ≤ B) (h : _) => lb54 B b0 (lbd B b0 h)
  unfold b_X6_lead_73
  refine T_qNm (fun o6 e_o6 => ?_)
  have hB_o6 : BoxC o6 := by rw [e_o6]; exact Box.s1 hB_o_9 (show -2147483648 ≤ 0 ∧ 0 ≤ 2147483647 from ⟨by omega, by omega⟩)
  have fr_o6 : Fr [(59, 0), (59, 1), (59, 8), (60, 9999), (61, 9999), (62, 9999), (63, 9999), (64, 9999), (65, 9999)] o o6 := by rw [e_o6]; exact Fr.s1 fr_o_9 rfl
  have g59_1_o6 : o6.1 59 1 = 0 := by rw [e_o6]; rfl
  have g59_8_o6 : o6.1 59 8 = o_9.1 59 8 := by rw [e_o6]; rfl
  have lbf := fun (B : Int) (b0 : 0 ≤ B) (h : _) => LB.cg (o' := o6) (fun j => by rw [e_o6]; rfl) (fun j => by rw [e_o6]; rfl) (lbe B b0 h)
  unfold e_X6_lead_81
  refine T_qB (tl_X6_lead_81 r13 o6 0 hB_o6 (by omega) (by omega) (by omega)) (fun r10 hc_r10 hp11 => ?_)
  obtain ⟨o_12, q_o_12⟩ : ∃ q, q = r10 := ⟨_, rfl⟩
  subst q_o_12
  replace hp11 : BoxC o_12 ∧ (Fr [(59, 1)] o6 o_12) := hp11
  have hps_hp11 := hp11
  obtain ⟨hp11_0, hp11_1⟩ := hps_hp11
  obtain ⟨hB_o_12, fc_o_12⟩ := hp11
  have fr_o_12 : Fr [(59, 0), (59, 1), (59, 8), (60, 9999), (61, 9999), (62, 9999), (63, 9999), (64, 9999), (65, 9999)] o o_12 := Fr.tr fr_o6 fc_o_12 rfl
  have g59_1_o_12 := bC_59_1 hB_o_12
  have g59_8_o_12 : o_12.1 59 8 = o6.1 59 8 := fc_o_12.1 59 8 rfl
  show T (b_X6_lead_116 o_12) _
  have lbg := fun (B : Int) (b0 : 0 ≤ B) (h : _) => LB.cg (fun j => fc_o_12.1 64 j rfl) (fun j => fc_o_12.1 61 j rfl) (lbf B b0 h)
  unfold b_X6_lead_116
  refine T_some ?_
  show BoxC o_12 ∧ (Fr [(59, 0), (59, 1), (59, 8), (60, 9999), (61, 9999), (62, 9999), (63, 9999), (64, 9999), (65, 9999)] o o_12) ∧ (∀ B, 0 ≤ B → LB o B → LB o_12 (B + 740000))
  exact ⟨hB_o_12, fr_o_12, (by first | assumption | exact (fun B _ h => LB.up h (by omega)) | exact (fun B b0 h => (w1 B b0 h).up (by omega)) | exact (fun B b0 h => lbg B b0 h))⟩
set_option maxRecDepth 20000 in
set_option maxHeartbeats 4000000 in
theorem t_X11_whither (o : OO) (x1 : Int) (hB_o : BoxC o) (k0 : inR x1) (k1 : LB o 380000000) : T (s_X11_whither o x1) (fun v => BoxC v.2 ∧ (Fr [(0, 14), (0, 17), (59, 0), (59, 1), (59, 8), (60, 9999), (61, 9999), (62, 9999), (63, 9999), (64, 9999), (65, 9999), (77, 9999)] o v.2) ∧ (inR v.1) ∧ (∀ B, 0 ≤ B → LB o B → LB v.2 (B + 740000))) := by
  have fr_o : Fr [(0, 14), (0, 17), (59, 0), (59, 1), (59, 8), (60, 9999), (61, 9999), (62, 9999), (63, 9999), (64, 9999), (65, 9999), (77, 9999)] o o := Fr.rf
  have g59_1_o := bC_59_1 hB_o
  have g59_0_o := bC_59_0 hB_o
  have g32_13_o := bC_32_13 hB_o
  unfold s_X11_whither
  refine T_qB (t_X4_exists o x1 hB_o (by omega)) (fun r1 hc_r1 hp1 => ?_)
  replace hp1 : ((r1 = 1 ∧ (0 ≤ x1 ∧ x1 < o.1 32 13)) ∨ (r1 = 0 ∧ ¬ (0 ≤ x1 ∧ x1 < o.1 32 13))) := hp1
  refine T_qEq ⟨by omega, by omega⟩ ⟨by decide, by decide⟩ (fun h2 => ?_) (fun h2 => ?_)
  ·
    refine T_some ?_
    show BoxC o ∧ (Fr [(0, 14), (0, 17), (59, 0), (59, 1), (59, 8), (60, 9999), (61, 9999), (62, 9999), (63, 9999), (64, 9999), (65, 9999), (77, 9999)] o o) ∧ (inR (-1)) ∧ (∀ B, 0 ≤ B → LB o B → LB o (B + 740000))
    exact ⟨hB_o, fr_o, (by omega), (by first | exact (fun B _ h => h.up (by omega)) | exact (fun B b0 h => lb12 B b0 h) | exact (fun B b0 h => (lbf B b0 h).up (by omega)))⟩
  ·
    refine T_qB (t_X4_isOf o x1 1 hB_o (by omega) (by omega)) (fun r3 hc_r3 hp3 => ?_)
    replace hp3 : (0 ≤ r3 ∧ r3 ≤ 1) := hp3
    refine T_qEq ⟨by omega, by omega⟩ ⟨by decide, by decide⟩ (fun h4 => ?_) (fun h4 => ?_)
    ·
      refine T_qB2 (t_X11_found o 3 hB_o (by omega)) (fun r13 o15 hc_r13 hp5 => ?_)
      replace hp5 : BoxC o15 ∧ (Fr [(0, 17), (77, 9999)] o o15) ∧ (r13 = -3) := hp5
      obtain ⟨hB_o15, fc_o15, hp5⟩ := hp5
      have fr_o15 : Fr [(0, 14), (0, 17), (59, 0), (59, 1), (59, 8), (60, 9999), (61, 9999), (62, 9999), (63, 9999), (64, 9999), (65, 9999), (77, 9999)] o o15 := Fr.tr fr_o fc_o15 rfl
      have g59_1_o15 : o15.1 59 1 = o.1 59 1 := fc_o15.1 59 1 rfl
      have g59_0_o15 : o15.1 59 0 = o.1 59 0 := fc_o15.1 59 0 rfl
      have g32_13_o15 : o15.1 32 13 = o.1 32 13 := fc_o15.1 32 13 rfl
      have lbf := fun (B : Int) (b0 : 0 ≤ B) (h : LB _ B) => LB.cg (fun j => fc_o15.1 64 j rfl) (fun j => fc_o15.1 61 j rfl) h
      refine T_some ?_
      show BoxC o15 ∧ (Fr [(0, 14), (0, 17), (59, 0), (59, 1), (59, 8), (60, 9999), (61, 9999), (62, 9999), (63, 9999), (64, 9999), (65, 9999), (77, 9999)] o o15) ∧ (inR r13) ∧ (∀ B, 0 ≤ B → LB o B → LB o15 (B + 740000))
      exact ⟨hB_o15, fr_o15, (by omega), (by first | exact (fun B _ h => h.up (by omega)) | exact (fun B b0 h => lb12 B b0 h) | exact (fun B b0 h => (lbf B b0 h).up (by omega)))⟩
    ·
      refine T_qB (t_X4_cells o x1 hB_o (by omega)) (fun p5 hc_p5 hp6 => ?_)
      refine T_qB (t_X6_lead o p5 hB_o (by assumption)) (fun o9 hc_o9 hp7 => ?_)
      replace hp7 : BoxC o9 ∧ (Fr [(59, 0), (59, 1), (59, 8), (60, 9999), (61, 9999), (62, 9999), (63, 9999), (64, 9999), (65, 9999)] o o9) ∧ (∀ B, 0 ≤ B → LB o B → LB o9 (B + 740000)) := hp7
      obtain ⟨hB_o9, fc_o9, hp7⟩ := hp7
      have fr_o9 : Fr [(0, 14), (0, 17), (59, 0), (59, 1), (59, 8), (60, 9999), (61, 9999), (62, 9999), (63, 9999), (64, 9999), (65, 9999), (77, 9999)] o o9 := Fr.tr fr_o fc_o9 rfl
      have g59_1_o9 := bC_59_1 hB_o9
      have g59_0_o9 := bC_59_0 hB_o9
      have g32_13_o9 : o9.1 32 13 = o.1 32 13 := fc_o9.1 32 13 rfl
      have lb9 := hp7
      refine T_qB2 (t_X11_tell o9 (o9.1 59 1) hB_o9) (fun r10 o12 hc_r10 hp8 => ?_)
      replace hp8 : BoxC o12 ∧ (Fr [(0, 14)] o9 o12) ∧ (r10 = 1) := hp8
      obtain ⟨hB_o12, fc_o12, hp8⟩ := hp8
      have fr_o12 : Fr [(0, 14), (0, 17), (59, 0), (59, 1), (59, 8), (60, 9999), (61, 9999), (62, 9999), (63, 9999), (64, 9999), (65, 9999), (77, 9999)] o o12 := Fr.tr fr_o9 fc_o12 rfl
      have g59_1_o12 : o12.1 59 1 = o9.1 59 1 := fc_o12.1 59 1 rfl
      have g59_0_o12 : o12.1 59 0 = o9.1 59 0 := fc_o12.1 59 0 rfl
      have g32_13_o12 : o12.1 32 13 = o9.1 32 13 := fc_o12.1 32 13 rfl
      have lb12 := fun (B : Int) (b0 : 0 ≤ B) (h : _) => LB.cg (fun j => fc_o12.1 64 j rfl) (fun j => fc_o12.1 61 j rfl) (lb9 B b0 h)
      refine T_some ?_
      show BoxC o12 ∧ (Fr [(0, 14), (0, 17), (59, 0), (59, 1), (59, 8), (60, 9999), (61, 9999), (62, 9999), (63, 9999), (64, 9999), (65, 9999), (77, 9999)] o o12) ∧ (inR (o12.1 59 0)) ∧ (∀ B, 0 ≤ B → LB o B → LB o12 (B + 740000))
      exact ⟨hB_o12, fr_o12, (by omega), (by first | exact (fun B _ h => h.up (by omega)) | exact (fun B b0 h => lb12 B b0 h) | exact (fun B b0 h => (lbf B b0 h).up (by omega)))⟩
set_option maxRecDepth 20000 in
set_option maxHeartbeats 4000000 in
theorem t_X11_who (o : OO) (x1 : Int) (x2 : Int) (hB_o : BoxC o) (k0 : inR x1) (k1 : inR x2) : T (s_X11_who o x1 x2) (fun v => BoxC v.2 ∧ (Fr [(0, 14)] o v.2)) := by
  have fr_o : Fr [(0, 14)] o o := Fr.rf
  have g23_4_o := bC_23_4 hB_o
  unfold s_X11_who
  refine T_qB (t_X5_exists o x1 hB_o (by omega)) (fun r1 hc_r1 hp1 => ?_)
  replace hp1 : ((r1 = 1 ∧ (0 ≤ x1 ∧ x1 < o.1 23 4)) ∨ (r1 = 0 ∧ ¬ (0 ≤ x1 ∧ x1 < o.1 23 4))) := hp1
  refine T_qEq ⟨by omega, by omega⟩ ⟨by decide, by decide⟩ (fun h2 => ?_) (fun h2 => ?_)
  ·
    unfold b_X11_who_20
    refine T_some ?_
    show BoxC o ∧ (Fr [(0, 14)] o o)
    exact ⟨hB_o, fr_o⟩
  ·
    refine T_qLt ⟨by omega, by omega⟩ ⟨by decide, by decide⟩ (fun h3 => ?_) (fun h3 => ?_)
    ·
      unfold b_X11_who_20
      refine T_some ?_
      show BoxC o ∧ (Fr [(0, 14)] o o)
      exact ⟨hB_o, fr_o⟩
    ·
      refine T_qLt ⟨by decide, by decide⟩ ⟨by omega, by omega⟩ (fun h4 => ?_) (fun h4 => ?_)
      ·
        unfold b_X11_who_20
        refine T_some ?_
        show BoxC o ∧ (Fr [(0, 14)] o o)
        exact ⟨hB_o, fr_o⟩
      ·
        refine T_qB (t_X5_trait o x1 x2 hB_o (by omega) (by omega)) (fun r3 hc_r3 hp5 => ?_)
        replace hp5 : (inR r3) := hp5
        refine T_qB2 (t_X11_tell o r3 hB_o) (fun r5 o7 hc_r5 hp6 => ?_)
        replace hp6 : BoxC o7 ∧ (Fr [(0, 14)] o o7) ∧ (r5 = 1) := hp6
        obtain ⟨hB_o7, fc_o7, hp6⟩ := hp6
        have fr_o7 : Fr [(0, 14)] o o7 := Fr.tr fr_o fc_o7 rfl
        have g23_4_o7 : o7.1 23 4 = o.1 23 4 := fc_o7.1 23 4 rfl
        refine T_some ?_
        show BoxC o7 ∧ (Fr [(0, 14)] o o7)
        exact ⟨hB_o7, fr_o7⟩
