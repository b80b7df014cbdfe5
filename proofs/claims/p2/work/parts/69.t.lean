set_option maxRecDepth 20000 in
set_option maxHeartbeats 4000000 in
theorem tl_X12_stop_169 (x1 : Int) (x2 : Int) (x3 : Int) (i_o : OO) (i_x4 : Int) (hB_i_o : BoxM i_o) (k0 : 0 ≤ x1 ∧ x1 ≤ 63) (k1 : 0 ≤ x2 ∧ x2 ≤ 63) (k2 : 0 ≤ x3 ∧ x3 ≤ 9999) (k3 : CUX i_o x1 x2 x3) (v0 : 0 ≤ i_x4 ∧ i_x4 ≤ 64) (v1 : LG i_o x3) (v2 : BD i_o (128 * i_x4)) (v3 : PHX i_o i_o x1 x2 x3 i_x4) : T (loopW (fun s => l_X12_stop_169 x1 x2 x3 s.1 s.2) (i_o, i_x4)) (fun r => BoxM r.1 ∧ (Fr [(59, 9999), (60, 9999), (61, 9999), (62, 9999)] i_o r.1) ∧ (0 ≤ r.2 ∧ r.2 ≤ 64)) := by
  have fr_i_o : Fr [(59, 9999), (60, 9999), (61, 9999), (62, 9999)] i_o i_o := Fr.rf
  refine T_loop (fun s => BoxM s.1 ∧ (Fr [(59, 9999), (60, 9999), (61, 9999), (62, 9999)] i_o s.1) ∧ (0 ≤ s.2 ∧ s.2 ≤ 64) ∧ (LG s.1 x3) ∧ (BD s.1 (128 * s.2)) ∧ (PHX i_o s.1 x1 x2 x3 s.2)) (fun s => (65 - s.2).toNat) (by exact ⟨hB_i_o, fr_i_o, v0, v1, v2, v3⟩) (fun s hs => ?_)
  obtain ⟨o, x4⟩ := s
  replace hs : BoxM o ∧ (Fr [(59, 9999), (60, 9999), (61, 9999), (62, 9999)] i_o o) ∧ (0 ≤ x4 ∧ x4 ≤ 64) ∧ (LG o x3) ∧ (BD o (128 * x4)) ∧ (PHX i_o o x1 x2 x3 x4) := hs
  obtain ⟨hB_o, fr_o, w0, w1, w2, w3⟩ := hs
  have g0_17_i := bM_0_17 hB_i_o
  have g0_17_o : o.1 0 17 = i_o.1 0 17 := fr_o.1 0 17 rfl
  have cux : CUX i_o x1 x2 x3 := by assumption
  have e19 : o.1 11 = i_o.1 11 ∧ o.1 12 = i_o.1 12 ∧ o.1 58 = i_o.1 58 := ⟨funext (fun j => fr_o.1 11 j rfl), funext (fun j => fr_o.1 12 j rfl), funext (fun j => fr_o.1 58 j rfl)⟩
  show T (l_X12_stop_169 x1 x2 x3 o x4) _
  unfold l_X12_stop_169
  refine T_qB2 (t_X12_finds o x1 x2 x3 hB_o (by omega) (by omega) (by omega)) (fun r9 o11 hc_r9 hp1 => ?_)
  replace hp1 : BoxM o11 ∧ (Fr [(61, 9999), (62, 9999)] o o11) ∧ (FND o11 x3 (2 * x1 + 1)) ∧ ((r9 = 1 ∧ 0 ≤ o11.1 61 (2 * x2).toNat) ∨ r9 = 0) := hp1
  obtain ⟨hB_o11, fc_o11, hp1⟩ := hp1
  have fr_o11 : Fr [(59, 9999), (60, 9999), (61, 9999), (62, 9999)] i_o o11 := Fr.tr fr_o fc_o11 rfl
  have g0_17_o11 : o11.1 0 17 = o.1 0 17 := fc_o11.1 0 17 rfl
  have fd11 : FND o11 x3 (2 * x1 + 1) := hp1.1
  have fd12 := hp1.2
  have e29 : o11.1 11 = o.1 11 ∧ o11.1 12 = o.1 12 ∧ o11.1 58 = o.1 58 ∧ o11.1 59 = o.1 59 ∧ o11.1 60 = o.1 60 := ⟨funext (fun j => fc_o11.1 11 j rfl), funext (fun j => fc_o11.1 12 j rfl), funext (fun j => fc_o11.1 58 j rfl), funext (fun j => fc_o11.1 59 j rfl), funext (fun j => fc_o11.1 60 j rfl)⟩
  have bd11 : BD o11 1000000 := (w2.cg e29.2.2.2.1 e29.2.2.2.2).up (by omega)
  refine T_qEq ⟨by omega, by omega⟩ ⟨by decide, by decide⟩ (fun h2 => ?_) (fun h2 => ?_)
  ·
    refine T_some ?_
    show BoxM o11 ∧ (Fr [(59, 9999), (60, 9999), (61, 9999), (62, 9999)] i_o o11) ∧ (0 ≤ x4 ∧ x4 ≤ 64)
    exact ⟨hB_o11, fr_o11, (by omega)⟩
  ·
    refine T_qB (t_X12_goAlong o11 x1 x2 hB_o11 (by omega) (by omega) (⟨_, fd11⟩) (by first | assumption | exact ZR_BD zr8) (by omega)) (fun o14 hc_o14 hp3 => ?_)
    replace hp3 : BoxM o14 ∧ (Fr [(59, 9999), (60, 9999)] o11 o14) ∧ (GEND o11 o14 (2 * x1 + 1) (2 * x2)) := hp3
    obtain ⟨hB_o14, fc_o14, hp3⟩ := hp3
    have fr_o14 : Fr [(59, 9999), (60, 9999), (61, 9999), (62, 9999)] i_o o14 := Fr.tr fr_o11 fc_o14 rfl
    have g0_17_o14 : o14.1 0 17 = o11.1 0 17 := fc_o14.1 0 17 rfl
    obtain ⟨sa14, sb14, sc14, sd14⟩ := ST_next e19 e29 ⟨funext (fun j => fc_o14.1 11 j rfl), funext (fun j => fc_o14.1 12 j rfl), funext (fun j => fc_o14.1 58 j rfl)⟩ cux w1 w2 w3 fd11 hp3
    refine T_some ?_
    show (BoxM o14 ∧ (Fr [(59, 9999), (60, 9999), (61, 9999), (62, 9999)] i_o o14) ∧ (0 ≤ (x4 + 1) ∧ (x4 + 1) ≤ 64) ∧ (LG o14 x3) ∧ (BD o14 (128 * (x4 + 1))) ∧ (PHX i_o o14 x1 x2 x3 (x4 + 1))) ∧ (65 - (x4 + 1)).toNat < (65 - x4).toNat
    exact ⟨⟨hB_o14, fr_o14, (by omega), (by first | assumption | exact ZR_LG zr8), (by first | assumption | exact ZR_BD zr8), (by first | assumption | exact (fun R _ => ZR_PHI zr8 _))⟩, by omega⟩
set_option maxRecDepth 20000 in
set_option maxHeartbeats 4000000 in
theorem tl_X12_stop_104 (x1 : Int) (x2 : Int) (x3 : Int) (x4 : Int) (i_o : OO) (i_x5 : Int) (hB_i_o : BoxM i_o) (k0 : 0 ≤ x4 ∧ x4 ≤ 63) (v0 : 0 ≤ i_x5 ∧ i_x5 ≤ 4) (v1 : ZR i_o x4) (v2 : ZW i_o x4 i_x5) : T (loopW (fun s => l_X12_stop_104 x1 x2 x3 x4 s.1 s.2) (i_o, i_x5)) (fun r => BoxM r ∧ (Fr [(60, 9999)] i_o r) ∧ (ZR r x4) ∧ (ZW r x4 4)) := by
  have fr_i_o : Fr [(60, 9999)] i_o i_o := Fr.rf
  refine T_loop (fun s => BoxM s.1 ∧ (Fr [(60, 9999)] i_o s.1) ∧ (0 ≤ s.2 ∧ s.2 ≤ 4) ∧ (ZR s.1 x4) ∧ (ZW s.1 x4 s.2)) (fun s => (4 - s.2).toNat) (by exact ⟨hB_i_o, fr_i_o, v0, v1, v2⟩) (fun s hs => ?_)
  obtain ⟨o, x5⟩ := s
  replace hs : BoxM o ∧ (Fr [(60, 9999)] i_o o) ∧ (0 ≤ x5 ∧ x5 ≤ 4) ∧ (ZR o x4) ∧ (ZW o x4 x5) := hs
  obtain ⟨hB_o, fr_o, w0, w1, w2⟩ := hs
  have g0_17_i := bM_0_17 hB_i_o
  have g0_17_o : o.1 0 17 = i_o.1 0 17 := fr_o.1 0 17 rfl
  show T (l_X12_stop_104 x1 x2 x3 x4 o x5) _
  unfold l_X12_stop_104
  refine T_qLt ⟨by omega, by omega⟩ ⟨by decide, by decide⟩ (fun h4 => ?_) (fun h4 => ?_)
  ·
    refine T_qIn ⟨by omega, by omega⟩ ?_
    refine T_qNm (fun o23 e_o23 => ?_)
    have hB_o23 : BoxM o23 := by rw [e_o23]; exact Box.s1 hB_o (show -2147483648 ≤ 0 ∧ 0 ≤ 2147483647 from ⟨by omega, by omega⟩)
    have fr_o23 : Fr [(60, 9999)] i_o o23 := by rw [e_o23]; exact Fr.s1 fr_o rfl
    have g0_17_o23 : o23.1 0 17 = o.1 0 17 := by rw [e_o23]; rfl
    have zr23 : ZR o23 x4 := by rw [e_o23]; exact ZR_60 w1 (by omega) (by omega)
    have zw23 : ZW o23 x4 (x5 + 1) := by rw [e_o23]; exact ZW_s w2 (by omega) (by omega)
    refine T_some ?_
    show (BoxM o23 ∧ (Fr [(60, 9999)] i_o o23) ∧ (0 ≤ (x5 + 1) ∧ (x5 + 1) ≤ 4) ∧ (ZR o23 x4) ∧ (ZW o23 x4 (x5 + 1))) ∧ (4 - (x5 + 1)).toNat < (4 - x5).toNat
    exact ⟨⟨hB_o23, fr_o23, (by omega), (by first | assumption | exact ZR_0 | (have q9 := w1; rwa [show x4 = 64 by omega] at q9)), (by first | assumption | exact ZW_0 | (have q9 := w2; rwa [show x5 = 4 by omega] at q9))⟩, by omega⟩
  ·
    refine T_some ?_
    show BoxM o ∧ (Fr [(60, 9999)] i_o o) ∧ (ZR o x4) ∧ (ZW o x4 4)
    exact ⟨hB_o, fr_o, (by first | assumption | exact ZR_0 | (have q9 := w1; rwa [show x4 = 64 by omega] at q9)), (by first | assumption | exact ZW_0 | (have q9 := w2; rwa [show x5 = 4 by omega] at q9))⟩
set_option maxRecDepth 20000 in
set_option maxHeartbeats 4000000 in
theorem tl_X12_stop_199 (x4 : Int) (i_o : OO) (i_x5 : Int) (hB_i_o : BoxM i_o) (k0 : 0 ≤ x4 ∧ x4 ≤ 64) (v0 : 0 ≤ i_x5 ∧ i_x5 ≤ 64) : T (loopW (fun s => l_X12_stop_199 x4 s.1 s.2) (i_o, i_x5)) (fun r => BoxM r ∧ (Fr [(0, 3)] i_o r)) := by
  have fr_i_o : Fr [(0, 3)] i_o i_o := Fr.rf
  refine T_loop (fun s => BoxM s.1 ∧ (Fr [(0, 3)] i_o s.1) ∧ (0 ≤ s.2 ∧ s.2 ≤ 64)) (fun s => (64 - s.2).toNat) (by exact ⟨hB_i_o, fr_i_o, v0⟩) (fun s hs => ?_)
  obtain ⟨o, x5⟩ := s
  replace hs : BoxM o ∧ (Fr [(0, 3)] i_o o) ∧ (0 ≤ x5 ∧ x5 ≤ 64) := hs
  obtain ⟨hB_o, fr_o, w0⟩ := hs
  have g0_17_i := bM_0_17 hB_i_o
  have g0_17_o : o.1 0 17 = i_o.1 0 17 := fr_o.1 0 17 rfl
  show T (l_X12_stop_199 x4 o x5) _
  unfold l_X12_stop_199
  refine T_qLt ⟨by omega, by omega⟩ ⟨by decide, by decide⟩ (fun h5 => ?_) (fun h5 => ?_)
  ·
    refine T_qIn ⟨by omega, by omega⟩ ?_
    refine T_qNm (fun n3 e_n3 => ?_)
    have b_n3 : 0 ≤ n3 ∧ n3 ≤ 1 := by rw [e_n3]; exact bM_58 hB_o _
    refine T_qEq ⟨by omega, by omega⟩ ⟨by decide, by decide⟩ (fun h6 => ?_) (fun h6 => ?_)
    ·
      unfold b_X12_stop_246
      unfold b_X12_stop_247
      refine T_qEq ⟨by decide, by decide⟩ ⟨by decide, by decide⟩ (fun h7 => ?_) (fun h7 => ?_)
      ·
        unfold b_X12_stop_267
        refine T_qNm (fun o1 e_o1 => ?_)
        have hB_o1 : BoxM o1 := by rw [e_o1]; exact Box.s2 hB_o
        have fr_o1 : Fr [(0, 3)] i_o o1 := by rw [e_o1]; exact Fr.s2 fr_o rfl
        have g0_17_o1 : o1.1 0 17 = o.1 0 17 := by rw [e_o1]; rfl
        refine T_some ?_
        show (BoxM o1 ∧ (Fr [(0, 3)] i_o o1) ∧ (0 ≤ (x5 + 1) ∧ (x5 + 1) ≤ 64)) ∧ (64 - (x5 + 1)).toNat < (64 - x5).toNat
        exact ⟨⟨hB_o1, fr_o1, (by omega)⟩, by omega⟩
      ·
        unfold b_X12_stop_267
        refine T_qNm (fun o1 e_o1 => ?_)
        have hB_o1 : BoxM o1 := by rw [e_o1]; exact Box.s2 hB_o
        have fr_o1 : Fr [(0, 3)] i_o o1 := by rw [e_o1]; exact Fr.s2 fr_o rfl
        have g0_17_o1 : o1.1 0 17 = o.1 0 17 := by rw [e_o1]; rfl
        refine T_some ?_
        show (BoxM o1 ∧ (Fr [(0, 3)] i_o o1) ∧ (0 ≤ (x5 + 1) ∧ (x5 + 1) ≤ 64)) ∧ (64 - (x5 + 1)).toNat < (64 - x5).toNat
        exact ⟨⟨hB_o1, fr_o1, (by omega)⟩, by omega⟩
    ·
      refine T_qIn ⟨by omega, by omega⟩ ?_
      refine T_qNm (fun n5 e_n5 => ?_)
      have b_n5 : -9 ≤ n5 ∧ n5 ≤ 127 := by rw [e_n5]; exact bM_61 hB_o _
      refine T_qLt ⟨by omega, by omega⟩ ⟨by decide, by decide⟩ (fun h8 => ?_) (fun h8 => ?_)
      ·
        unfold b_X12_stop_246
        unfold b_X12_stop_247
        refine T_qEq ⟨by decide, by decide⟩ ⟨by decide, by decide⟩ (fun h9 => ?_) (fun h9 => ?_)
        ·
          unfold b_X12_stop_267
          refine T_qNm (fun o1 e_o1 => ?_)
          have hB_o1 : BoxM o1 := by rw [e_o1]; exact Box.s2 hB_o
          have fr_o1 : Fr [(0, 3)] i_o o1 := by rw [e_o1]; exact Fr.s2 fr_o rfl
          have g0_17_o1 : o1.1 0 17 = o.1 0 17 := by rw [e_o1]; rfl
          refine T_some ?_
          show (BoxM o1 ∧ (Fr [(0, 3)] i_o o1) ∧ (0 ≤ (x5 + 1) ∧ (x5 + 1) ≤ 64)) ∧ (64 - (x5 + 1)).toNat < (64 - x5).toNat
          exact ⟨⟨hB_o1, fr_o1, (by omega)⟩, by omega⟩
        ·
          unfold b_X12_stop_267
          refine T_qNm (fun o1 e_o1 => ?_)
          have hB_o1 : BoxM o1 := by rw [e_o1]; exact Box.s2 hB_o
          have fr_o1 : Fr [(0, 3)] i_o o1 := by rw [e_o1]; exact Fr.s2 fr_o rfl
          have g0_17_o1 : o1.1 0 17 = o.1 0 17 := by rw [e_o1]; rfl
          refine T_some ?_
          show (BoxM o1 ∧ (Fr [(0, 3)] i_o o1) ∧ (0 ≤ (x5 + 1) ∧ (x5 + 1) ≤ 64)) ∧ (64 - (x5 + 1)).toNat < (64 - x5).toNat
          exact ⟨⟨hB_o1, fr_o1, (by omega)⟩, by omega⟩
      ·
        refine T_qIn ⟨by omega, by omega⟩ ?_
        refine T_qNm (fun n7 e_n7 => ?_)
        have b_n7 : -9 ≤ n7 ∧ n7 ≤ 127 := by rw [e_n7]; exact bM_61 hB_o _
        refine T_qLt ⟨by omega, by omega⟩ ⟨by decide, by decide⟩ (fun h10 => ?_) (fun h10 => ?_)
        ·
          unfold b_X12_stop_247
          refine T_qEq ⟨by decide, by decide⟩ ⟨by decide, by decide⟩ (fun h11 => ?_) (fun h11 => ?_)
          ·
            unfold b_X12_stop_267
            refine T_qNm (fun o1 e_o1 => ?_)
            have hB_o1 : BoxM o1 := by rw [e_o1]; exact Box.s2 hB_o
            have fr_o1 : Fr [(0, 3)] i_o o1 := by rw [e_o1]; exact Fr.s2 fr_o rfl
            have g0_17_o1 : o1.1 0 17 = o.1 0 17 := by rw [e_o1]; rfl
            refine T_some ?_
            show (BoxM o1 ∧ (Fr [(0, 3)] i_o o1) ∧ (0 ≤ (x5 + 1) ∧ (x5 + 1) ≤ 64)) ∧ (64 - (x5 + 1)).toNat < (64 - x5).toNat
            exact ⟨⟨hB_o1, fr_o1, (by omega)⟩, by omega⟩
          ·
            unfold b_X12_stop_267
            refine T_qNm (fun o1 e_o1 => ?_)
            have hB_o1 : BoxM o1 := by rw [e_o1]; exact Box.s2 hB_o
            have fr_o1 : Fr [(0, 3)] i_o o1 := by rw [e_o1]; exact Fr.s2 fr_o rfl
            have g0_17_o1 : o1.1 0 17 = o.1 0 17 := by rw [e_o1]; rfl
            refine T_some ?_
            show (BoxM o1 ∧ (Fr [(0, 3)] i_o o1) ∧ (0 ≤ (x5 + 1) ∧ (x5 + 1) ≤ 64)) ∧ (64 - (x5 + 1)).toNat < (64 - x5).toNat
            exact ⟨⟨hB_o1, fr_o1, (by omega)⟩, by omega⟩
        ·
          unfold b_X12_stop_246
          unfold b_X12_stop_247
          refine T_qEq ⟨by decide, by decide⟩ ⟨by decide, by decide⟩ (fun h12 => ?_) (fun h12 => ?_)
          ·
            unfold b_X12_stop_267
            refine T_qNm (fun o1 e_o1 => ?_)
            have hB_o1 : BoxM o1 := by rw [e_o1]; exact Box.s2 hB_o
            have fr_o1 : Fr [(0, 3)] i_o o1 := by rw [e_o1]; exact Fr.s2 fr_o rfl
            have g0_17_o1 : o1.1 0 17 = o.1 0 17 := by rw [e_o1]; rfl
            refine T_some ?_
            show (BoxM o1 ∧ (Fr [(0, 3)] i_o o1) ∧ (0 ≤ (x5 + 1) ∧ (x5 + 1) ≤ 64)) ∧ (64 - (x5 + 1)).toNat < (64 - x5).toNat
            exact ⟨⟨hB_o1, fr_o1, (by omega)⟩, by omega⟩
          ·
            unfold b_X12_stop_267
            refine T_qNm (fun o1 e_o1 => ?_)
            have hB_o1 : BoxM o1 := by rw [e_o1]; exact Box.s2 hB_o
            have fr_o1 : Fr [(0, 3)] i_o o1 := by rw [e_o1]; exact Fr.s2 fr_o rfl
            have g0_17_o1 : o1.1 0 17 = o.1 0 17 := by rw [e_o1]; rfl
            refine T_some ?_
            show (BoxM o1 ∧ (Fr [(0, 3)] i_o o1) ∧ (0 ≤ (x5 + 1) ∧ (x5 + 1) ≤ 64)) ∧ (64 - (x5 + 1)).toNat < (64 - x5).toNat
            exact ⟨⟨hB_o1, fr_o1, (by omega)⟩, by omega⟩
  ·
    refine T_some ?_
    show BoxM o ∧ (Fr [(0, 3)] i_o o)
    exact ⟨hB_o, fr_o⟩
set_option maxRecDepth 20000 in
set_option maxHeartbeats 4000000 in
theorem tl_X12_stop_53 (x1 : Int) (x2 : Int) (x3 : Int) (i_o : OO) (i_x4 : Int) (hB_i_o : BoxM i_o) (k0 : 0 ≤ x1 ∧ x1 ≤ 63) (k1 : 0 ≤ x2 ∧ x2 ≤ 63) (k2 : 0 ≤ x3 ∧ x3 ≤ 9999) (v0 : 0 ≤ i_x4 ∧ i_x4 ≤ 64) (v1 : ZR i_o i_x4) (v2 : i_x4 ≤ x1 ∨ i_o.1 58 x1.toNat = 0) (v3 : i_x4 ≤ x2 ∨ i_o.1 58 x2.toNat = 0) : T (loopW (fun s => l_X12_stop_53 x1 x2 x3 s.1 s.2) (i_o, i_x4)) (fun r => BoxM r ∧ (Fr [(58, 9999), (59, 9999), (60, 9999)] i_o r) ∧ (ZR r 64) ∧ (r.1 58 x1.toNat = 0) ∧ (r.1 58 x2.toNat = 0)) := by
  have fr_i_o : Fr [(58, 9999), (59, 9999), (60, 9999)] i_o i_o := Fr.rf
  refine T_loop (fun s => BoxM s.1 ∧ (Fr [(58, 9999), (59, 9999), (60, 9999)] i_o s.1) ∧ (0 ≤ s.2 ∧ s.2 ≤ 64) ∧ (ZR s.1 s.2) ∧ (s.2 ≤ x1 ∨ s.1.1 58 x1.toNat = 0) ∧ (s.2 ≤ x2 ∨ s.1.1 58 x2.toNat = 0)) (fun s => (64 - s.2).toNat) (by exact ⟨hB_i_o, fr_i_o, v0, v1, v2, v3⟩) (fun s hs => ?_)
  obtain ⟨o, x4⟩ := s
  replace hs : BoxM o ∧ (Fr [(58, 9999), (59, 9999), (60, 9999)] i_o o) ∧ (0 ≤ x4 ∧ x4 ≤ 64) ∧ (ZR o x4) ∧ (x4 ≤ x1 ∨ o.1 58 x1.toNat = 0) ∧ (x4 ≤ x2 ∨ o.1 58 x2.toNat = 0) := hs
  obtain ⟨hB_o, fr_o, w0, w1, w2, w3⟩ := hs
  have g0_17_i := bM_0_17 hB_i_o
  have g0_17_o : o.1 0 17 = i_o.1 0 17 := fr_o.1 0 17 rfl
  show T (l_X12_stop_53 x1 x2 x3 o x4) _
  unfold l_X12_stop_53
  refine T_qLt ⟨by omega, by omega⟩ ⟨by decide, by decide⟩ (fun h13 => ?_) (fun h13 => ?_)
  ·
    refine T_qEq ⟨by omega, by omega⟩ ⟨by omega, by omega⟩ (fun h14 => ?_) (fun h14 => ?_)
    ·
      unfold b_X12_stop_91
      unfold b_X12_stop_92
      refine T_qIn ⟨by omega, by omega⟩ ?_
      refine T_qZ (Or.inl rfl) ?_
      refine T_qNm (fun o26 e_o26 => ?_)
      have hB_o26 : BoxM o26 := by rw [e_o26]; exact Box.s1 hB_o (show 0 ≤ 0 ∧ 0 ≤ 1 from ⟨by omega, by omega⟩)
      have fr_o26 : Fr [(58, 9999), (59, 9999), (60, 9999)] i_o o26 := by rw [e_o26]; exact Fr.s1 fr_o rfl
      have g0_17_o26 : o26.1 0 17 = o.1 0 17 := by rw [e_o26]; rfl
      have a26 : x4 + 1 ≤ x1 ∨ o26.1 58 x1.toNat = 0 := by rw [e_o26]; exact ST58 w2 (by omega) (by omega) (by omega)
      have b26 : x4 + 1 ≤ x2 ∨ o26.1 58 x2.toNat = 0 := by rw [e_o26]; exact ST58 w3 (by omega) (by omega) (by omega)
      refine T_qIn ⟨by omega, by omega⟩ ?_
      refine T_qNm (fun o28 e_o28 => ?_)
      have hB_o28 : BoxM o28 := by rw [e_o28]; exact Box.s1 hB_o26 (show -2147483648 ≤ 0 ∧ 0 ≤ 2147483647 from ⟨by omega, by omega⟩)
      have fr_o28 : Fr [(58, 9999), (59, 9999), (60, 9999)] i_o o28 := by rw [e_o28]; exact Fr.s1 fr_o26 rfl
      have g0_17_o28 : o28.1 0 17 = o26.1 0 17 := by rw [e_o28]; rfl
      have zr28 : ZR o28 x4 := by rw [e_o28, e_o26]; exact ZR_59 w1 _ (by omega)
      have z28 : o28.1 59 x4.toNat = 0 := by rw [e_o28]; exact st1_eq
      have a28 : x4 + 1 ≤ x1 ∨ o28.1 58 x1.toNat = 0 := by rw [e_o28]; exact a26
      have b28 : x4 + 1 ≤ x2 ∨ o28.1 58 x2.toNat = 0 := by rw [e_o28]; exact b26
      unfold e_X12_stop_104
      refine T_qB (tl_X12_stop_104 x1 x2 x3 x4 o28 0 hB_o28 (by omega) (by omega) (by first | assumption | exact ZR_0 | (have q9 := w1; rwa [show x4 = 64 by omega] at q9)) (by first | assumption | exact ZW_0 | (have q9 := w2; rwa [show x5 = 4 by omega] at q9))) (fun r15 hc_r15 hp16 => ?_)
      obtain ⟨o_17, q_o_17⟩ : ∃ q, q = r15 := ⟨_, rfl⟩
      subst q_o_17
      replace hp16 : BoxM o_17 ∧ (Fr [(60, 9999)] o28 o_17) ∧ (ZR o_17 x4) ∧ (ZW o_17 x4 4) := hp16
      have hps_hp16 := hp16
      obtain ⟨hp16_0, hp16_1, hp16_2, hp16_3⟩ := hps_hp16
      obtain ⟨hB_o_17, fc_o_17, hp16⟩ := hp16
      replace hp16 := hid hp16
      have fr_o_17 : Fr [(58, 9999), (59, 9999), (60, 9999)] i_o o_17 := Fr.tr fr_o28 fc_o_17 rfl
      have g0_17_o_17 : o_17.1 0 17 = o28.1 0 17 := fc_o_17.1 0 17 rfl
      show T (b_X12_stop_129 o_17 x1 x2 x3 x4) _
      have zr9 : ZR o_17 (x4 + 1) := ZR_s (by assumption) (by rw [fc_o_17.1 59 _ rfl]; exact z28) (by assumption)
      have a9 : x4 + 1 ≤ x1 ∨ o_17.1 58 x1.toNat = 0 := by rw [fc_o_17.1 58 _ rfl]; exact a28
      have b9 : x4 + 1 ≤ x2 ∨ o_17.1 58 x2.toNat = 0 := by rw [fc_o_17.1 58 _ rfl]; exact b28
      unfold b_X12_stop_129
      refine T_some ?_
      show (BoxM o_17 ∧ (Fr [(58, 9999), (59, 9999), (60, 9999)] i_o o_17) ∧ (0 ≤ (x4 + 1) ∧ (x4 + 1) ≤ 64) ∧ (ZR o_17 (x4 + 1)) ∧ ((x4 + 1) ≤ x1 ∨ o_17.1 58 x1.toNat = 0) ∧ ((x4 + 1) ≤ x2 ∨ o_17.1 58 x2.toNat = 0)) ∧ (64 - (x4 + 1)).toNat < (64 - x4).toNat
      exact ⟨⟨hB_o_17, fr_o_17, (by omega), (by first | assumption | exact ZR_0 | (have q9 := w1; rwa [show x4 = 64 by omega] at q9)), (by omega), (by omega)⟩, by omega⟩
    ·
      refine T_qEq ⟨by omega, by omega⟩ ⟨by omega, by omega⟩ (fun h18 => ?_) (fun h18 => ?_)
      ·
        unfold b_X12_stop_91
        unfold b_X12_stop_92
        refine T_qIn ⟨by omega, by omega⟩ ?_
        refine T_qZ (Or.inl rfl) ?_
        refine T_qNm (fun o26 e_o26 => ?_)
        have hB_o26 : BoxM o26 := by rw [e_o26]; exact Box.s1 hB_o (show 0 ≤ 0 ∧ 0 ≤ 1 from ⟨by omega, by omega⟩)
        have fr_o26 : Fr [(58, 9999), (59, 9999), (60, 9999)] i_o o26 := by rw [e_o26]; exact Fr.s1 fr_o rfl
        have g0_17_o26 : o26.1 0 17 = o.1 0 17 := by rw [e_o26]; rfl
        have a26 : x4 + 1 ≤ x1 ∨ o26.1 58 x1.toNat = 0 := by rw [e_o26]; exact ST58 w2 (by omega) (by omega) (by omega)
        have b26 : x4 + 1 ≤ x2 ∨ o26.1 58 x2.toNat = 0 := by rw [e_o26]; exact ST58 w3 (by omega) (by omega) (by omega)
        refine T_qIn ⟨by omega, by omega⟩ ?_
        refine T_qNm (fun o28 e_o28 => ?_)
        have hB_o28 : BoxM o28 := by rw [e_o28]; exact Box.s1 hB_o26 (show -2147483648 ≤ 0 ∧ 0 ≤ 2147483647 from ⟨by omega, by omega⟩)
        have fr_o28 : Fr [(58, 9999), (59, 9999), (60, 9999)] i_o o28 := by rw [e_o28]; exact Fr.s1 fr_o26 rfl
        have g0_17_o28 : o28.1 0 17 = o26.1 0 17 := by rw [e_o28]; rfl
        have zr28 : ZR o28 x4 := by rw [e_o28, e_o26]; exact ZR_59 w1 _ (by omega)
        have z28 : o28.1 59 x4.toNat = 0 := by rw [e_o28]; exact st1_eq
        have a28 : x4 + 1 ≤ x1 ∨ o28.1 58 x1.toNat = 0 := by rw [e_o28]; exact a26
        have b28 : x4 + 1 ≤ x2 ∨ o28.1 58 x2.toNat = 0 := by rw [e_o28]; exact b26
        unfold e_X12_stop_104
        refine T_qB (tl_X12_stop_104 x1 x2 x3 x4 o28 0 hB_o28 (by omega) (by omega) (by first | assumption | exact ZR_0 | (have q9 := w1; rwa [show x4 = 64 by omega] at q9)) (by first | assumption | exact ZW_0 | (have q9 := w2; rwa [show x5 = 4 by omega] at q9))) (fun r19 hc_r19 hp20 => ?_)
        obtain ⟨o_21, q_o_21⟩ : ∃ q, q = r19 := ⟨_, rfl⟩
        subst q_o_21
        replace hp20 : BoxM o_21 ∧ (Fr [(60, 9999)] o28 o_21) ∧ (ZR o_21 x4) ∧ (ZW o_21 x4 4) := hp20
        have hps_hp20 := hp20
        obtain ⟨hp20_0, hp20_1, hp20_2, hp20_3⟩ := hps_hp20
        obtain ⟨hB_o_21, fc_o_21, hp20⟩ := hp20
        replace hp20 := hid hp20
        have fr_o_21 : Fr [(58, 9999), (59, 9999), (60, 9999)] i_o o_21 := Fr.tr fr_o28 fc_o_21 rfl
        have g0_17_o_21 : o_21.1 0 17 = o28.1 0 17 := fc_o_21.1 0 17 rfl
        show T (b_X12_stop_129 o_21 x1 x2 x3 x4) _
        have zr9 : ZR o_21 (x4 + 1) := ZR_s (by assumption) (by rw [fc_o_21.1 59 _ rfl]; exact z28) (by assumption)
        have a9 : x4 + 1 ≤ x1 ∨ o_21.1 58 x1.toNat = 0 := by rw [fc_o_21.1 58 _ rfl]; exact a28
        have b9 : x4 + 1 ≤ x2 ∨ o_21.1 58 x2.toNat = 0 := by rw [fc_o_21.1 58 _ rfl]; exact b28
        unfold b_X12_stop_129
        refine T_some ?_
        show (BoxM o_21 ∧ (Fr [(58, 9999), (59, 9999), (60, 9999)] i_o o_21) ∧ (0 ≤ (x4 + 1) ∧ (x4 + 1) ≤ 64) ∧ (ZR o_21 (x4 + 1)) ∧ ((x4 + 1) ≤ x1 ∨ o_21.1 58 x1.toNat = 0) ∧ ((x4 + 1) ≤ x2 ∨ o_21.1 58 x2.toNat = 0)) ∧ (64 - (x4 + 1)).toNat < (64 - x4).toNat
        exact ⟨⟨hB_o_21, fr_o_21, (by omega), (by first | assumption | exact ZR_0 | (have q9 := w1; rwa [show x4 = 64 by omega] at q9)), (by omega), (by omega)⟩, by omega⟩
      ·
        refine T_qB (t_X12_on o x4 hB_o (by omega)) (fun r29 hc_r29 hp22 => ?_)
        replace hp22 : ((r29 = -9 ∨ 0 ≤ r29) ∧ r29 < o.1 0 17) := hp22
        refine T_qLt ⟨by omega, by omega⟩ ⟨by decide, by decide⟩ (fun h23 => ?_) (fun h23 => ?_)
        ·
          unfold b_X12_stop_91
          unfold b_X12_stop_92
          refine T_qIn ⟨by omega, by omega⟩ ?_
          refine T_qZ (Or.inl rfl) ?_
          refine T_qNm (fun o26 e_o26 => ?_)
          have hB_o26 : BoxM o26 := by rw [e_o26]; exact Box.s1 hB_o (show 0 ≤ 0 ∧ 0 ≤ 1 from ⟨by omega, by omega⟩)
          have fr_o26 : Fr [(58, 9999), (59, 9999), (60, 9999)] i_o o26 := by rw [e_o26]; exact Fr.s1 fr_o rfl
          have g0_17_o26 : o26.1 0 17 = o.1 0 17 := by rw [e_o26]; rfl
          have a26 : x4 + 1 ≤ x1 ∨ o26.1 58 x1.toNat = 0 := by rw [e_o26]; exact ST58 w2 (by omega) (by omega) (by omega)
          have b26 : x4 + 1 ≤ x2 ∨ o26.1 58 x2.toNat = 0 := by rw [e_o26]; exact ST58 w3 (by omega) (by omega) (by omega)
          refine T_qIn ⟨by omega, by omega⟩ ?_
          refine T_qNm (fun o28 e_o28 => ?_)
          have hB_o28 : BoxM o28 := by rw [e_o28]; exact Box.s1 hB_o26 (show -2147483648 ≤ 0 ∧ 0 ≤ 2147483647 from ⟨by omega, by omega⟩)
          have fr_o28 : Fr [(58, 9999), (59, 9999), (60, 9999)] i_o o28 := by rw [e_o28]; exact Fr.s1 fr_o26 rfl
          have g0_17_o28 : o28.1 0 17 = o26.1 0 17 := by rw [e_o28]; rfl
          have zr28 : ZR o28 x4 := by rw [e_o28, e_o26]; exact ZR_59 w1 _ (by omega)
          have z28 : o28.1 59 x4.toNat = 0 := by rw [e_o28]; exact st1_eq
          have a28 : x4 + 1 ≤ x1 ∨ o28.1 58 x1.toNat = 0 := by rw [e_o28]; exact a26
          have b28 : x4 + 1 ≤ x2 ∨ o28.1 58 x2.toNat = 0 := by rw [e_o28]; exact b26
          unfold e_X12_stop_104
          refine T_qB (tl_X12_stop_104 x1 x2 x3 x4 o28 0 hB_o28 (by omega) (by omega) (by first | assumption | exact ZR_0 | (have q9 := w1; rwa [show x4 = 64 by omega] at q9)) (by first | assumption | exact ZW_0 | (have q9 := w2; rwa [show x5 = 4 by omega] at q9))) (fun r24 hc_r24 hp25 => ?_)
          obtain ⟨o_26, q_o_26⟩ : ∃ q, q = r24 := ⟨_, rfl⟩
          subst q_o_26
          replace hp25 : BoxM o_26 ∧ (Fr [(60, 9999)] o28 o_26) ∧ (ZR o_26 x4) ∧ (ZW o_26 x4 4) := hp25
          have hps_hp25 := hp25
          obtain ⟨hp25_0, hp25_1, hp25_2, hp25_3⟩ := hps_hp25
          obtain ⟨hB_o_26, fc_o_26, hp25⟩ := hp25
          replace hp25 := hid hp25
          have fr_o_26 : Fr [(58, 9999), (59, 9999), (60, 9999)] i_o o_26 := Fr.tr fr_o28 fc_o_26 rfl
          have g0_17_o_26 : o_26.1 0 17 = o28.1 0 17 := fc_o_26.1 0 17 rfl
          show T (b_X12_stop_129 o_26 x1 x2 x3 x4) _
          have zr9 : ZR o_26 (x4 + 1) := ZR_s (by assumption) (by rw [fc_o_26.1 59 _ rfl]; exact z28) (by assumption)
          have a9 : x4 + 1 ≤ x1 ∨ o_26.1 58 x1.toNat = 0 := by rw [fc_o_26.1 58 _ rfl]; exact a28
          have b9 : x4 + 1 ≤ x2 ∨ o_26.1 58 x2.toNat = 0 := by rw [fc_o_26.1 58 _ rfl]; exact b28
          unfold b_X12_stop_129
          refine T_some ?_
          show (BoxM o_26 ∧ (Fr [(58, 9999), (59, 9999), (60, 9999)] i_o o_26) ∧ (0 ≤ (x4 + 1) ∧ (x4 + 1) ≤ 64) ∧ (ZR o_26 (x4 + 1)) ∧ ((x4 + 1) ≤ x1 ∨ o_26.1 58 x1.toNat = 0) ∧ ((x4 + 1) ≤ x2 ∨ o_26.1 58 x2.toNat = 0)) ∧ (64 - (x4 + 1)).toNat < (64 - x4).toNat
          exact ⟨⟨hB_o_26, fr_o_26, (by omega), (by first | assumption | exact ZR_0 | (have q9 := w1; rwa [show x4 = 64 by omega] at q9)), (by omega), (by omega)⟩, by omega⟩
        ·
          unfold b_X12_stop_92
          refine T_qIn ⟨by omega, by omega⟩ ?_
          refine T_qZ (Or.inr rfl) ?_
          refine T_qNm (fun o26 e_o26 => ?_)
          have hB_o26 : BoxM o26 := by rw [e_o26]; exact Box.s1 hB_o (show 0 ≤ 1 ∧ 1 ≤ 1 from ⟨by omega, by omega⟩)
          have fr_o26 : Fr [(58, 9999), (59, 9999), (60, 9999)] i_o o26 := by rw [e_o26]; exact Fr.s1 fr_o rfl
          have g0_17_o26 : o26.1 0 17 = o.1 0 17 := by rw [e_o26]; rfl
          have a26 : x4 + 1 ≤ x1 ∨ o26.1 58 x1.toNat = 0 := by rw [e_o26]; exact ST58 w2 (by omega) (by omega) (by omega)
          have b26 : x4 + 1 ≤ x2 ∨ o26.1 58 x2.toNat = 0 := by rw [e_o26]; exact ST58 w3 (by omega) (by omega) (by omega)
          refine T_qIn ⟨by omega, by omega⟩ ?_
          refine T_qNm (fun o28 e_o28 => ?_)
          have hB_o28 : BoxM o28 := by rw [e_o28]; exact Box.s1 hB_o26 (show -2147483648 ≤ 0 ∧ 0 ≤ 2147483647 from ⟨by omega, by omega⟩)
          have fr_o28 : Fr [(58, 9999), (59, 9999), (60, 9999)] i_o o28 := by rw [e_o28]; exact Fr.s1 fr_o26 rfl
          have g0_17_o28 : o28.1 0 17 = o26.1 0 17 := by rw [e_o28]; rfl
          have zr28 : ZR o28 x4 := by rw [e_o28, e_o26]; exact ZR_59 w1 _ (by omega)
          have z28 : o28.1 59 x4.toNat = 0 := by rw [e_o28]; exact st1_eq
          have a28 : x4 + 1 ≤ x1 ∨ o28.1 58 x1.toNat = 0 := by rw [e_o28]; exact a26
          have b28 : x4 + 1 ≤ x2 ∨ o28.1 58 x2.toNat = 0 := by rw [e_o28]; exact b26
          unfold e_X12_stop_104
          refine T_qB (tl_X12_stop_104 x1 x2 x3 x4 o28 0 hB_o28 (by omega) (by omega) (by first | assumption | exact ZR_0 | (have q9 := w1; rwa [show x4 = 64 by omega] at q9)) (by first | assumption | exact ZW_0 | (have q9 := w2; rwa [show x5 = 4 by omega] at q9))) (fun r27 hc_r27 hp28 => ?_)
          obtain ⟨o_29, q_o_29⟩ : ∃ q, q = r27 := ⟨_, rfl⟩
          subst q_o_29
          replace hp28 : BoxM o_29 ∧ (Fr [(60, 9999)] o28 o_29) ∧ (ZR o_29 x4) ∧ (ZW o_29 x4 4) := hp28
          have hps_hp28 := hp28
          obtain ⟨hp28_0, hp28_1, hp28_2, hp28_3⟩ := hps_hp28
          obtain ⟨hB_o_29, fc_o_29, hp28⟩ := hp28
          replace hp28 := hid hp28
          have fr_o_29 : Fr [(58, 9999), (59, 9999), (60, 9999)] i_o o_29 := Fr.tr fr_o28 fc_o_29 rfl
          have g0_17_o_29 : o_29.1 0 17 = o28.1 0 17 := fc_o_29.1 0 17 rfl
          show T (b_X12_stop_129 o_29 x1 x2 x3 x4) _
          have zr9 : ZR o_29 (x4 + 1) := ZR_s (by assumption) (by rw [fc_o_29.1 59 _ rfl]; exact z28) (by assumption)
          have a9 : x4 + 1 ≤ x1 ∨ o_29.1 58 x1.toNat = 0 := by rw [fc_o_29.1 58 _ rfl]; exact a28
          have b9 : x4 + 1 ≤ x2 ∨ o_29.1 58 x2.toNat = 0 := by rw [fc_o_29.1 58 _ rfl]; exact b28
          unfold b_X12_stop_129
          refine T_some ?_
          show (BoxM o_29 ∧ (Fr [(58, 9999), (59, 9999), (60, 9999)] i_o o_29) ∧ (0 ≤ (x4 + 1) ∧ (x4 + 1) ≤ 64) ∧ (ZR o_29 (x4 + 1)) ∧ ((x4 + 1) ≤ x1 ∨ o_29.1 58 x1.toNat = 0) ∧ ((x4 + 1) ≤ x2 ∨ o_29.1 58 x2.toNat = 0)) ∧ (64 - (x4 + 1)).toNat < (64 - x4).toNat
          exact ⟨⟨hB_o_29, fr_o_29, (by omega), (by first | assumption | exact ZR_0 | (have q9 := w1; rwa [show x4 = 64 by omega] at q9)), (by omega), (by omega)⟩, by omega⟩
  ·
    refine T_some ?_
    show BoxM o ∧ (Fr [(58, 9999), (59, 9999), (60, 9999)] i_o o) ∧ (ZR o 64) ∧ (o.1 58 x1.toNat = 0) ∧ (o.1 58 x2.toNat = 0)
    exact ⟨hB_o, fr_o, (by first | assumption | exact ZR_0 | (have q9 := w1; rwa [show x4 = 64 by omega] at q9)), (by omega), (by omega)⟩
set_option maxRecDepth 20000 in
set_option maxHeartbeats 4000000 in
theorem t_X12_stop (o : OO) (x1 : Int) (x2 : Int) (hB_o : BoxM o) (k0 : inR x1) (k1 : inR x2) : T (s_X12_stop o x1 x2) (fun v => BoxM v.2 ∧ (Fr [(0, 0), (0, 3), (1, 9999), (58, 9999), (59, 9999), (60, 9999), (61, 9999), (62, 9999)] o v.2)) := by
  have fr_o : Fr [(0, 0), (0, 3), (1, 9999), (58, 9999), (59, 9999), (60, 9999), (61, 9999), (62, 9999)] o o := Fr.rf
  have g0_17_o := bM_0_17 hB_o
  unfold s_X12_stop
  refine T_qB (t_X12_isCell x1 (by omega)) (fun r31 hc_r31 hp30 => ?_)
  replace hp30 : ((r31 = 1 ∧ 0 ≤ x1 ∧ x1 ≤ 63) ∨ (r31 = 0 ∧ (x1 < 0 ∨ 63 < x1))) := hp30
  refine T_qEq ⟨by omega, by omega⟩ ⟨by decide, by decide⟩ (fun h31 => ?_) (fun h31 => ?_)
  ·
    unfold b_X12_stop_19
    refine T_some ?_
    show BoxM o ∧ (Fr [(0, 0), (0, 3), (1, 9999), (58, 9999), (59, 9999), (60, 9999), (61, 9999), (62, 9999)] o o)
    exact ⟨hB_o, fr_o⟩
  ·
    refine T_qB (t_X12_isCell x2 (by omega)) (fun r33 hc_r33 hp32 => ?_)
    replace hp32 : ((r33 = 1 ∧ 0 ≤ x2 ∧ x2 ≤ 63) ∨ (r33 = 0 ∧ (x2 < 0 ∨ 63 < x2))) := hp32
    refine T_qEq ⟨by omega, by omega⟩ ⟨by decide, by decide⟩ (fun h33 => ?_) (fun h33 => ?_)
    ·
      unfold b_X12_stop_19
      refine T_some ?_
      show BoxM o ∧ (Fr [(0, 0), (0, 3), (1, 9999), (58, 9999), (59, 9999), (60, 9999), (61, 9999), (62, 9999)] o o)
      exact ⟨hB_o, fr_o⟩
    ·
      refine T_qEq ⟨by omega, by omega⟩ ⟨by omega, by omega⟩ (fun h34 => ?_) (fun h34 => ?_)
      ·
        unfold b_X12_stop_19
        refine T_some ?_
        show BoxM o ∧ (Fr [(0, 0), (0, 3), (1, 9999), (58, 9999), (59, 9999), (60, 9999), (61, 9999), (62, 9999)] o o)
        exact ⟨hB_o, fr_o⟩
      ·
        refine T_qIn ⟨by omega, by omega⟩ ?_
        refine T_qNm (fun n36 e_n36 => ?_)
        have b_n36 : 0 ≤ n36 ∧ n36 ≤ 4 := by rw [e_n36]; exact bM_11 hB_o _
        refine T_qEq ⟨by omega, by omega⟩ ⟨by decide, by decide⟩ (fun h35 => ?_) (fun h35 => ?_)
        ·
          unfold b_X12_stop_41
          refine T_some ?_
          show BoxM o ∧ (Fr [(0, 0), (0, 3), (1, 9999), (58, 9999), (59, 9999), (60, 9999), (61, 9999), (62, 9999)] o o)
          exact ⟨hB_o, fr_o⟩
        ·
          refine T_qIn ⟨by omega, by omega⟩ ?_
          refine T_qNm (fun n38 e_n38 => ?_)
          have b_n38 : 0 ≤ n38 ∧ n38 ≤ 4 := by rw [e_n38]; exact bM_11 hB_o _
          refine T_qEq ⟨by omega, by omega⟩ ⟨by decide, by decide⟩ (fun h36 => ?_) (fun h36 => ?_)
          ·
            unfold b_X12_stop_41
            refine T_some ?_
            show BoxM o ∧ (Fr [(0, 0), (0, 3), (1, 9999), (58, 9999), (59, 9999), (60, 9999), (61, 9999), (62, 9999)] o o)
            exact ⟨hB_o, fr_o⟩
          ·
            refine T_qB (t_X12_nowInForce o 0 hB_o (by omega)) (fun r39 hc_r39 hp37 => ?_)
            replace hp37 : (0 ≤ r39 ∧ r39 ≤ 9999) := hp37
            unfold e_X12_stop_53
            refine T_qB (tl_X12_stop_53 x1 x2 r39 o 0 hB_o (by omega) (by omega) (by omega) (by omega) (by first | assumption | exact ZR_0 | (have q9 := w1; rwa [show x4 = 64 by omega] at q9)) (by omega) (by omega)) (fun r38 hc_r38 hp39 => ?_)
            obtain ⟨o_40, q_o_40⟩ : ∃ q, q = r38 := ⟨_, rfl⟩
            subst q_o_40
            replace hp39 : BoxM o_40 ∧ (Fr [(58, 9999), (59, 9999), (60, 9999)] o o_40) ∧ (ZR o_40 64) ∧ (o_40.1 58 x1.toNat = 0) ∧ (o_40.1 58 x2.toNat = 0) := hp39
            have hps_hp39 := hp39
            obtain ⟨hp39_0, hp39_1, hp39_2, hp39_3, hp39_4⟩ := hps_hp39
            obtain ⟨hB_o_40, fc_o_40, hp39⟩ := hp39
            replace hp39 := hid hp39
            have fr_o_40 : Fr [(0, 0), (0, 3), (1, 9999), (58, 9999), (59, 9999), (60, 9999), (61, 9999), (62, 9999)] o o_40 := Fr.tr fr_o fc_o_40 rfl
            have g0_17_o_40 : o_40.1 0 17 = o.1 0 17 := fc_o_40.1 0 17 rfl
            show T (b_X12_stop_135 o_40 x1 x2 r39) _
            have zr8 : ZR o_40 64 := by assumption
            unfold b_X12_stop_135
            refine T_qB (t_X12_comes o_40 x1 x2 r39 1 hB_o_40 (by omega) (by omega) (by omega) (by omega)) (fun r15 hc_r15 hp41 => ?_)
            replace hp41 : (0 ≤ r15 ∧ r15 ≤ 1) ∧ ((0 : Int) = r15 → CMS o_40 x1 x2 r39 1) := hp41
            have hps_hp41 := hp41
            obtain ⟨hp41_0, hp41_1⟩ := hps_hp41
            replace hp41 := hid hp41
            refine T_qEq ⟨by omega, by omega⟩ ⟨by decide, by decide⟩ (fun h42 => ?_) (fun h42 => ?_)
            ·
              refine T_qB2 (t_X12_meets o_40 1 hB_o_40 (by omega)) (fun r19 o21 hc_r19 hp43 => ?_)
              replace hp43 : BoxM o21 ∧ (Fr [(0, 0), (1, 9999)] o_40 o21) ∧ (r19 = -3) := hp43
              obtain ⟨hB_o21, fc_o21, hp43⟩ := hp43
              have fr_o21 : Fr [(0, 0), (0, 3), (1, 9999), (58, 9999), (59, 9999), (60, 9999), (61, 9999), (62, 9999)] o o21 := Fr.tr fr_o_40 fc_o21 rfl
              have g0_17_o21 : o21.1 0 17 = o_40.1 0 17 := fc_o21.1 0 17 rfl
              refine T_some ?_
              show BoxM o21 ∧ (Fr [(0, 0), (0, 3), (1, 9999), (58, 9999), (59, 9999), (60, 9999), (61, 9999), (62, 9999)] o o21)
              exact ⟨hB_o21, fr_o21⟩
            ·
              refine T_qB (t_X12_comes o_40 x1 x2 r39 0 hB_o_40 (by omega) (by omega) (by omega) (by omega)) (fun r17 hc_r17 hp44 => ?_)
              replace hp44 : (0 ≤ r17 ∧ r17 ≤ 1) ∧ ((0 : Int) = r17 → CMS o_40 x1 x2 r39 0) := hp44
              have hps_hp44 := hp44
              obtain ⟨hp44_0, hp44_1⟩ := hps_hp44
              replace hp44 := hid hp44
              have cm17 : (0 : Int) = r17 → CUX o_40 x1 x2 r39 := fun e => CUTR_of (by omega) (by assumption) (by assumption) (hp44_1 e)
              refine T_qEq ⟨by omega, by omega⟩ ⟨by decide, by decide⟩ (fun h45 => ?_) (fun h45 => ?_)
              ·
                unfold e_X12_stop_169
                refine T_qB (tl_X12_stop_169 x1 x2 r39 o_40 0 hB_o_40 (by omega) (by omega) (by omega) (cm17 (by omega)) (by omega) (by first | assumption | exact ZR_LG zr8) (by first | assumption | exact ZR_BD zr8) (by first | assumption | exact (fun R _ => ZR_PHI zr8 _))) (fun r46 hc_r46 hp47 => ?_)
                obtain ⟨o_48, x4_49⟩ := r46
                replace hp47 : BoxM o_48 ∧ (Fr [(59, 9999), (60, 9999), (61, 9999), (62, 9999)] o_40 o_48) ∧ (0 ≤ x4_49 ∧ x4_49 ≤ 64) := hp47
                have hps_hp47 := hp47
                obtain ⟨hp47_0, hp47_1, hp47_2⟩ := hps_hp47
                obtain ⟨hB_o_48, fc_o_48, hp47⟩ := hp47
                replace hp47 := hid hp47
                have fr_o_48 : Fr [(0, 0), (0, 3), (1, 9999), (58, 9999), (59, 9999), (60, 9999), (61, 9999), (62, 9999)] o o_48 := Fr.tr fr_o_40 fc_o_48 rfl
                have g0_17_o_48 : o_48.1 0 17 = o_40.1 0 17 := fc_o_48.1 0 17 rfl
                show T (b_X12_stop_191 o_48 x4_49) _
                unfold b_X12_stop_191
                refine T_qNm (fun o8 e_o8 => ?_)
                have hB_o8 : BoxM o8 := by rw [e_o8]; exact Box.s2 hB_o_48
                have fr_o8 : Fr [(0, 0), (0, 3), (1, 9999), (58, 9999), (59, 9999), (60, 9999), (61, 9999), (62, 9999)] o o8 := by rw [e_o8]; exact Fr.s2 fr_o_48 rfl
                have g0_17_o8 : o8.1 0 17 = o_48.1 0 17 := by rw [e_o8]; rfl
                unfold e_X12_stop_199
                refine T_qB (tl_X12_stop_199 x4_49 o8 0 hB_o8 (by omega) (by omega)) (fun r50 hc_r50 hp51 => ?_)
                obtain ⟨o_52, q_o_52⟩ : ∃ q, q = r50 := ⟨_, rfl⟩
                subst q_o_52
                replace hp51 : BoxM o_52 ∧ (Fr [(0, 3)] o8 o_52) := hp51
                have hps_hp51 := hp51
                obtain ⟨hp51_0, hp51_1⟩ := hps_hp51
                obtain ⟨hB_o_52, fc_o_52⟩ := hp51
                have fr_o_52 : Fr [(0, 0), (0, 3), (1, 9999), (58, 9999), (59, 9999), (60, 9999), (61, 9999), (62, 9999)] o o_52 := Fr.tr fr_o8 fc_o_52 rfl
                have g0_17_o_52 : o_52.1 0 17 = o8.1 0 17 := fc_o_52.1 0 17 rfl
                show T (b_X12_stop_277 o_52 x4_49) _
                unfold b_X12_stop_277
                refine T_some ?_
                show BoxM o_52 ∧ (Fr [(0, 0), (0, 3), (1, 9999), (58, 9999), (59, 9999), (60, 9999), (61, 9999), (62, 9999)] o o_52)
                exact ⟨hB_o_52, fr_o_52⟩
              ·
                refine T_some ?_
                show BoxM o_40 ∧ (Fr [(0, 0), (0, 3), (1, 9999), (58, 9999), (59, 9999), (60, 9999), (61, 9999), (62, 9999)] o o_40)
                exact ⟨hB_o_40, fr_o_40⟩
theorem tl_X12_firstValue_2 (o : OO) (x1 : Int) (k : Nat) (hk : (k : Int) < 100) (he : o.1 18 k = x1) (hB_o : BoxM o) (hx : 0 ≤ x1 ∧ x1 ≤ 31) : T (loopW (fun s => l_X12_firstValue_2 o x1 s) 0) (fun r => 0 ≤ r ∧ r ≤ 99) := by
  refine T_loop (fun s => 0 ≤ s ∧ s ≤ (k : Int)) (fun s => ((k : Int) - s).toNat) ⟨by omega, by omega⟩ (fun s hs => ?_)
  obtain ⟨h0, h1⟩ := hs
  show T (l_X12_firstValue_2 o x1 s) _
  unfold l_X12_firstValue_2
  refine T_qIn ⟨by omega, by omega⟩ ?_
  refine T_qNm (fun n4 e_n4 => ?_)
  have b_n4 := bM_18 hB_o s.toNat
  rw [← e_n4] at b_n4
  refine T_qEq ⟨by omega, by omega⟩ ⟨by omega, by omega⟩ (fun h => ?_) (fun h => ?_)
  · refine T_some ?_
    show 0 ≤ s ∧ s ≤ 99
    omega
  · refine T_some ?_
    have : s ≠ (k : Int) := fun e => h (by rw [e_n4, e, ← he]; rfl)
    show (0 ≤ s + 1 ∧ s + 1 ≤ (k : Int)) ∧ ((k : Int) - (s + 1)).toNat < ((k : Int) - s).toNat
    omega
theorem t_X12_firstValue (o : OO) (x1 : Int) (hB_o : BoxM o) (k0 : 0 ≤ x1) (k1 : x1 < o.1 0 17) (k2 : HT o) : T (s_X12_firstValue o x1) (fun v => (0 ≤ v ∧ v ≤ 100000)) := by
  obtain ⟨k, hk, he⟩ := k2 x1 k0 k1
  have g1 := bM_0_23 hB_o
  have g2 := bM_0_17 hB_o
  unfold s_X12_firstValue e_X12_firstValue_2
  refine T_qB (tl_X12_firstValue_2 o x1 k (by omega) he hB_o ⟨by omega, by omega⟩) (fun r hr hp => ?_)
  unfold b_X12_firstValue_18
  refine T_qIn ⟨by omega, by omega⟩ ?_
  refine T_qNm (fun n e => ?_)
  refine T_some ?_
  rw [e]
  exact bM_20 hB_o _
set_option maxRecDepth 20000 in
set_option maxHeartbeats 4000000 in
theorem tl_X12_take_146 (x1 : Int) (x4 : Int) (i_o : OO) (i_x5 : Int) (hB_i_o : BoxM i_o) (k0 : inR x1) (k1 : 0 ≤ x4 ∧ x4 ≤ 23) (v0 : 0 ≤ i_x5 ∧ i_x5 ≤ i_o.1 0 27) : T (loopW (fun s => l_X12_take_146 x1 x4 s.1 s.2) (i_o, i_x5)) (fun r => BoxM r ∧ (Fr [(21, 9999), (34, 9999)] i_o r)) := by
  have fr_i_o : Fr [(21, 9999), (34, 9999)] i_o i_o := Fr.rf
  refine T_loop (fun s => BoxM s.1 ∧ (Fr [(21, 9999), (34, 9999)] i_o s.1) ∧ (0 ≤ s.2 ∧ s.2 ≤ s.1.1 0 27)) (fun s => (s.1.1 0 27 - s.2).toNat) (by exact ⟨hB_i_o, fr_i_o, v0⟩) (fun s hs => ?_)
  obtain ⟨o, x5⟩ := s
  replace hs : BoxM o ∧ (Fr [(21, 9999), (34, 9999)] i_o o) ∧ (0 ≤ x5 ∧ x5 ≤ o.1 0 27) := hs
  obtain ⟨hB_o, fr_o, w0⟩ := hs
  have g0_27_i := bM_0_27 hB_i_o
  have g0_27_o : o.1 0 27 = i_o.1 0 27 := fr_o.1 0 27 rfl
  have g0_32_i := bM_0_32 hB_i_o
  have g0_32_o : o.1 0 32 = i_o.1 0 32 := fr_o.1 0 32 rfl
  have g0_17_i := bM_0_17 hB_i_o
  have g0_17_o : o.1 0 17 = i_o.1 0 17 := fr_o.1 0 17 rfl
  show T (l_X12_take_146 x1 x4 o x5) _
  unfold l_X12_take_146
  refine T_qLt ⟨by omega, by omega⟩ ⟨by omega, by omega⟩ (fun h1 => ?_) (fun h1 => ?_)
  ·
    refine T_qIn ⟨by omega, by omega⟩ ?_
    refine T_qNm (fun n10 e_n10 => ?_)
    have b_n10 : -9 ≤ n10 ∧ n10 ≤ 31 := by rw [e_n10]; exact bM_21 hB_o _
    refine T_qEq ⟨by omega, by omega⟩ ⟨by omega, by omega⟩ (fun h2 => ?_) (fun h2 => ?_)
    ·
      refine T_qIn ⟨by omega, by omega⟩ ?_
      refine T_qNm (fun m12 e_m12 => ?_)
      refine T_qIn ⟨by omega, by omega⟩ ?_
      refine T_qNm (fun o14 e_o14 => ?_)
      have hB_o14 : BoxM o14 := by rw [e_o14]; exact Box.s2 hB_o
      have fr_o14 : Fr [(21, 9999), (34, 9999)] i_o o14 := by rw [e_o14]; exact Fr.s2 fr_o rfl
      have g0_27_o14 : o14.1 0 27 = o.1 0 27 := by rw [e_o14]; rfl
      have g0_32_o14 : o14.1 0 32 = o.1 0 32 := by rw [e_o14]; rfl
      have g0_17_o14 : o14.1 0 17 = o.1 0 17 := by rw [e_o14]; rfl
      refine T_qIn ⟨by omega, by omega⟩ ?_
      refine T_qNm (fun o16 e_o16 => ?_)
      have hB_o16 : BoxM o16 := by rw [e_o16]; exact Box.s1 hB_o14 (show -9 ≤ (-9) ∧ (-9) ≤ 31 from ⟨by omega, by omega⟩)
      have fr_o16 : Fr [(21, 9999), (34, 9999)] i_o o16 := by rw [e_o16]; exact Fr.s1 fr_o14 rfl
      have g0_27_o16 : o16.1 0 27 = o14.1 0 27 := by rw [e_o16]; rfl
      have g0_32_o16 : o16.1 0 32 = o14.1 0 32 := by rw [e_o16]; rfl
      have g0_17_o16 : o16.1 0 17 = o14.1 0 17 := by rw [e_o16]; rfl
      unfold b_X12_take_189
      refine T_some ?_
      show (BoxM o16 ∧ (Fr [(21, 9999), (34, 9999)] i_o o16) ∧ (0 ≤ (x5 + 1) ∧ (x5 + 1) ≤ o16.1 0 27)) ∧ (o16.1 0 27 - (x5 + 1)).toNat < (o.1 0 27 - x5).toNat
      exact ⟨⟨hB_o16, fr_o16, (by omega)⟩, by omega⟩
    ·
      unfold b_X12_take_189
      refine T_some ?_
      show (BoxM o ∧ (Fr [(21, 9999), (34, 9999)] i_o o) ∧ (0 ≤ (x5 + 1) ∧ (x5 + 1) ≤ o.1 0 27)) ∧ (o.1 0 27 - (x5 + 1)).toNat < (o.1 0 27 - x5).toNat
      exact ⟨⟨hB_o, fr_o, (by omega)⟩, by omega⟩
  ·
    refine T_some ?_
    show BoxM o ∧ (Fr [(21, 9999), (34, 9999)] i_o o)
    exact ⟨hB_o, fr_o⟩
set_option maxRecDepth 20000 in
set_option maxHeartbeats 4000000 in
theorem t_X12_take (o : OO) (x1 : Int) (x2 : Int) (hB_o : BoxM o) (k0 : inR x1) (k1 : inR x2) (k2 : HT o) : T (s_X12_take o x1 x2) (fun v => BoxM v.2 ∧ (Fr [(0, 0), (0, 2), (0, 32), (1, 9999), (16, 9999), (21, 9999), (25, 9999), (26, 9999), (27, 9999), (29, 9999), (30, 9999), (32, 9999), (34, 9999)] o v.2)) := by
  have fr_o : Fr [(0, 0), (0, 2), (0, 32), (1, 9999), (16, 9999), (21, 9999), (25, 9999), (26, 9999), (27, 9999), (29, 9999), (30, 9999), (32, 9999), (34, 9999)] o o := Fr.rf
  have g0_27_o := bM_0_27 hB_o
  have g0_32_o := bM_0_32 hB_o
  have g0_17_o := bM_0_17 hB_o
  unfold s_X12_take
  refine T_qB (t_X12_isBuilding o x1 hB_o (by omega)) (fun r27 hc_r27 hp3 => ?_)
  replace hp3 : ((r27 = 1 ∧ 0 ≤ x1 ∧ x1 < o.1 0 17) ∨ (r27 = 0 ∧ (x1 < 0 ∨ o.1 0 17 ≤ x1))) := hp3
  refine T_qEq ⟨by omega, by omega⟩ ⟨by decide, by decide⟩ (fun h4 => ?_) (fun h4 => ?_)
  ·
    unfold b_X12_take_16
    refine T_some ?_
    show BoxM o ∧ (Fr [(0, 0), (0, 2), (0, 32), (1, 9999), (16, 9999), (21, 9999), (25, 9999), (26, 9999), (27, 9999), (29, 9999), (30, 9999), (32, 9999), (34, 9999)] o o)
    exact ⟨hB_o, fr_o⟩
  ·
    refine T_qB (t_X12_isMark o x2 hB_o (by omega)) (fun r29 hc_r29 hp5 => ?_)
    replace hp5 : ((r29 = 1 ∧ 0 ≤ x2 ∧ x2 < o.1 0 32) ∨ (r29 = 0 ∧ (x2 < 0 ∨ o.1 0 32 ≤ x2))) := hp5
    refine T_qEq ⟨by omega, by omega⟩ ⟨by decide, by decide⟩ (fun h6 => ?_) (fun h6 => ?_)
    ·
      unfold b_X12_take_16
      refine T_some ?_
      show BoxM o ∧ (Fr [(0, 0), (0, 2), (0, 32), (1, 9999), (16, 9999), (21, 9999), (25, 9999), (26, 9999), (27, 9999), (29, 9999), (30, 9999), (32, 9999), (34, 9999)] o o)
      exact ⟨hB_o, fr_o⟩
    ·
      refine T_qEq ⟨by omega, by omega⟩ ⟨by decide, by decide⟩ (fun h7 => ?_) (fun h7 => ?_)
      ·
        refine T_some ?_
        show BoxM o ∧ (Fr [(0, 0), (0, 2), (0, 32), (1, 9999), (16, 9999), (21, 9999), (25, 9999), (26, 9999), (27, 9999), (29, 9999), (30, 9999), (32, 9999), (34, 9999)] o o)
        exact ⟨hB_o, fr_o⟩
      ·
        refine T_qB (t_X12_isLine o x2 hB_o (by omega)) (fun r31 hc_r31 hp8 => ?_)
        replace hp8 : (0 ≤ r31 ∧ r31 ≤ 1) := hp8
        refine T_qEq ⟨by omega, by omega⟩ ⟨by decide, by decide⟩ (fun h9 => ?_) (fun h9 => ?_)
        ·
          refine T_qB2 (t_X12_meets o 3 hB_o (by omega)) (fun r49 o51 hc_r49 hp10 => ?_)
          replace hp10 : BoxM o51 ∧ (Fr [(0, 0), (1, 9999)] o o51) ∧ (r49 = -3) := hp10
          obtain ⟨hB_o51, fc_o51, hp10⟩ := hp10
          have fr_o51 : Fr [(0, 0), (0, 2), (0, 32), (1, 9999), (16, 9999), (21, 9999), (25, 9999), (26, 9999), (27, 9999), (29, 9999), (30, 9999), (32, 9999), (34, 9999)] o o51 := Fr.tr fr_o fc_o51 rfl
          have g0_27_o51 : o51.1 0 27 = o.1 0 27 := fc_o51.1 0 27 rfl
          have g0_32_o51 : o51.1 0 32 = o.1 0 32 := fc_o51.1 0 32 rfl
          have g0_17_o51 : o51.1 0 17 = o.1 0 17 := fc_o51.1 0 17 rfl
          refine T_some ?_
          show BoxM o51 ∧ (Fr [(0, 0), (0, 2), (0, 32), (1, 9999), (16, 9999), (21, 9999), (25, 9999), (26, 9999), (27, 9999), (29, 9999), (30, 9999), (32, 9999), (34, 9999)] o o51)
          exact ⟨hB_o51, fr_o51⟩
        ·
          refine T_qIn ⟨by omega, by omega⟩ ?_
          refine T_qNm (fun n34 e_n34 => ?_)
          have b_n34 : -9 ≤ n34 ∧ n34 ≤ 999 := by rw [e_n34]; exact bM_29 hB_o _
          refine T_qLt ⟨by omega, by omega⟩ ⟨by decide, by decide⟩ (fun h11 => ?_) (fun h11 => ?_)
          ·
            unfold b_X12_take_79
            refine T_some ?_
            show BoxM o ∧ (Fr [(0, 0), (0, 2), (0, 32), (1, 9999), (16, 9999), (21, 9999), (25, 9999), (26, 9999), (27, 9999), (29, 9999), (30, 9999), (32, 9999), (34, 9999)] o o)
            exact ⟨hB_o, fr_o⟩
          ·
            refine T_qIn ⟨by omega, by omega⟩ ?_
            refine T_qNm (fun n36 e_n36 => ?_)
            have b_n36 : 0 ≤ n36 ∧ n36 ≤ 1 := by rw [e_n36]; exact bM_16 hB_o _
            refine T_qEq ⟨by omega, by omega⟩ ⟨by decide, by decide⟩ (fun h12 => ?_) (fun h12 => ?_)
            ·
              refine T_qB (t_X12_cellsOf o x2 hB_o (by omega)) (fun p37 hc_p37 hp13 => ?_)
              refine T_qIn ⟨by omega, by omega⟩ ?_
              refine T_qNm (fun n40 e_n40 => ?_)
              have b_n40 : 0 ≤ n40 ∧ n40 ≤ 63 := by rw [e_n40]; exact bM_13 hB_o _
              refine T_qB (t_X12_has p37 n40 (by omega)) (fun r41 hc_r41 hp14 => ?_)
              replace hp14 : ((r41 = 1 ∧ bt p37 n40.toNat = true) ∨ (r41 = 0 ∧ bt p37 n40.toNat = false)) := hp14
              refine T_qEq ⟨by omega, by omega⟩ ⟨by decide, by decide⟩ (fun h15 => ?_) (fun h15 => ?_)
              ·
                unfold b_X12_take_79
                refine T_some ?_
                show BoxM o ∧ (Fr [(0, 0), (0, 2), (0, 32), (1, 9999), (16, 9999), (21, 9999), (25, 9999), (26, 9999), (27, 9999), (29, 9999), (30, 9999), (32, 9999), (34, 9999)] o o)
                exact ⟨hB_o, fr_o⟩
              ·
                refine T_qIn ⟨by omega, by omega⟩ ?_
                refine T_qNm (fun n44 e_n44 => ?_)
                have b_n44 : -9 ≤ n44 ∧ n44 ≤ 999 := by rw [e_n44]; exact bM_29 hB_o _
                refine T_qB (t_X12_valueOf o x1 (n44 - 1) hB_o (by omega) (by omega)) (fun r45 hc_r45 hp16 => ?_)
                replace hp16 : (-9 ≤ r45 ∧ r45 ≤ 100000) ∧ (r45 = -9 ∨ 0 ≤ r45) := hp16
                have hps_hp16 := hp16
                obtain ⟨hp16_0, hp16_1⟩ := hps_hp16
                replace hp16 := hid hp16
                refine T_qLt ⟨by omega, by omega⟩ ⟨by decide, by decide⟩ (fun h17 => ?_) (fun h17 => ?_)
                ·
                  refine T_qB (t_X12_firstValue o x1 hB_o (by omega) (by omega) k2) (fun r47 hc_r47 hp18 => ?_)
                  replace hp18 : (0 ≤ r47 ∧ r47 ≤ 100000) := hp18
                  unfold b_X12_take_109
                  refine T_qB2 (t_X12_enter o 3 x2 hB_o (by omega) (by omega) (by omega)) (fun r17 o19 hc_r17 hp19 => ?_)
                  replace hp19 : BoxM o19 ∧ (Fr [(0, 32), (25, 9999), (26, 9999), (27, 9999), (29, 9999), (30, 9999)] o o19) ∧ (r17 = o.1 0 32) ∧ (o19.1 0 32 = o.1 0 32 + 1) := hp19
                  obtain ⟨hB_o19, fc_o19, hp19⟩ := hp19
                  have fr_o19 : Fr [(0, 0), (0, 2), (0, 32), (1, 9999), (16, 9999), (21, 9999), (25, 9999), (26, 9999), (27, 9999), (29, 9999), (30, 9999), (32, 9999), (34, 9999)] o o19 := Fr.tr fr_o fc_o19 rfl
                  have g0_27_o19 : o19.1 0 27 = o.1 0 27 := fc_o19.1 0 27 rfl
                  have g0_32_o19 := bM_0_32 hB_o19
                  have g0_17_o19 : o19.1 0 17 = o.1 0 17 := fc_o19.1 0 17 rfl
                  refine T_qB (t_X12_nowInForce o19 2 hB_o19 (by omega)) (fun r20 hc_r20 hp20 => ?_)
                  replace hp20 : (0 ≤ r20 ∧ r20 ≤ 9999) := hp20
                  have hm9 := mul_rng (a := r20) (b := r47) (A := 9999) (B := 100000) (by omega) (by omega) (by omega) (by omega)
                  refine T_qDv ⟨⟨by omega, by omega⟩, ⟨by decide, by decide⟩, by decide⟩ ?_
                  have jd21 : jq (r20 * r47) 100 = (r20 * r47) / 100 := jq_nn (by omega)
                  refine T_qIn ⟨by omega, by omega⟩ ?_
                  refine T_qNm (fun o24 e_o24 => ?_)
                  have hB_o24 : BoxM o24 := by rw [e_o24]; exact Box.s1 hB_o19 (show 0 ≤ (jq (r20 * r47) 100) ∧ (jq (r20 * r47) 100) ≤ 10000000 from ⟨by omega, by omega⟩)
                  have fr_o24 : Fr [(0, 0), (0, 2), (0, 32), (1, 9999), (16, 9999), (21, 9999), (25, 9999), (26, 9999), (27, 9999), (29, 9999), (30, 9999), (32, 9999), (34, 9999)] o o24 := by rw [e_o24]; exact Fr.s1 fr_o19 rfl
                  have g0_27_o24 : o24.1 0 27 = o19.1 0 27 := by rw [e_o24]; rfl
                  have g0_32_o24 : o24.1 0 32 = o19.1 0 32 := by rw [e_o24]; rfl
                  have g0_17_o24 : o24.1 0 17 = o19.1 0 17 := by rw [e_o24]; rfl
                  refine T_qIn ⟨by omega, by omega⟩ ?_
                  refine T_qNm (fun o26 e_o26 => ?_)
                  have hB_o26 : BoxM o26 := by rw [e_o26]; exact Box.s2 hB_o24
                  have fr_o26 : Fr [(0, 0), (0, 2), (0, 32), (1, 9999), (16, 9999), (21, 9999), (25, 9999), (26, 9999), (27, 9999), (29, 9999), (30, 9999), (32, 9999), (34, 9999)] o o26 := by rw [e_o26]; exact Fr.s2 fr_o24 rfl
                  have g0_27_o26 : o26.1 0 27 = o24.1 0 27 := by rw [e_o26]; rfl
                  have g0_32_o26 : o26.1 0 32 = o24.1 0 32 := by rw [e_o26]; rfl
                  have g0_17_o26 : o26.1 0 17 = o24.1 0 17 := by rw [e_o26]; rfl
                  unfold e_X12_take_146
                  refine T_qB (tl_X12_take_146 x1 r17 o26 0 hB_o26 (by omega) (by omega) (by omega)) (fun r22 hc_r22 hp23 => ?_)
                  obtain ⟨o_24, q_o_24⟩ : ∃ q, q = r22 := ⟨_, rfl⟩
                  subst q_o_24
                  replace hp23 : BoxM o_24 ∧ (Fr [(21, 9999), (34, 9999)] o26 o_24) := hp23
                  have hps_hp23 := hp23
                  obtain ⟨hp23_0, hp23_1⟩ := hps_hp23
                  obtain ⟨hB_o_24, fc_o_24⟩ := hp23
                  have fr_o_24 : Fr [(0, 0), (0, 2), (0, 32), (1, 9999), (16, 9999), (21, 9999), (25, 9999), (26, 9999), (27, 9999), (29, 9999), (30, 9999), (32, 9999), (34, 9999)] o o_24 := Fr.tr fr_o26 fc_o_24 rfl
                  have g0_27_o_24 : o_24.1 0 27 = o26.1 0 27 := fc_o_24.1 0 27 rfl
                  have g0_32_o_24 : o_24.1 0 32 = o26.1 0 32 := fc_o_24.1 0 32 rfl
                  have g0_17_o_24 : o_24.1 0 17 = o26.1 0 17 := fc_o_24.1 0 17 rfl
                  show T (b_X12_take_195 o_24 x1 r17) _
                  unfold b_X12_take_195
                  refine T_qIn ⟨by omega, by omega⟩ ?_
                  refine T_qZ (Or.inr rfl) ?_
                  refine T_qNm (fun o3 e_o3 => ?_)
                  have hB_o3 : BoxM o3 := by rw [e_o3]; exact Box.s1 hB_o_24 (show 0 ≤ 1 ∧ 1 ≤ 1 from ⟨by omega, by omega⟩)
                  have fr_o3 : Fr [(0, 0), (0, 2), (0, 32), (1, 9999), (16, 9999), (21, 9999), (25, 9999), (26, 9999), (27, 9999), (29, 9999), (30, 9999), (32, 9999), (34, 9999)] o o3 := by rw [e_o3]; exact Fr.s1 fr_o_24 rfl
                  have g0_27_o3 : o3.1 0 27 = o_24.1 0 27 := by rw [e_o3]; rfl
                  have g0_32_o3 : o3.1 0 32 = o_24.1 0 32 := by rw [e_o3]; rfl
                  have g0_17_o3 : o3.1 0 17 = o_24.1 0 17 := by rw [e_o3]; rfl
                  refine T_qIn ⟨by omega, by omega⟩ ?_
                  refine T_qNm (fun n5 e_n5 => ?_)
                  have b_n5 : 0 ≤ n5 ∧ n5 ≤ 10000000 := by rw [e_n5]; exact bM_32 hB_o3 _
                  refine T_qB2 (t_X12_ask o3 n5 r17 hB_o3) (fun r6 o8 hc_r6 hp25 => ?_)
                  replace hp25 : BoxM o8 ∧ (Fr [(0, 2)] o3 o8) ∧ (r6 = r17) := hp25
                  obtain ⟨hB_o8, fc_o8, hp25⟩ := hp25
                  have fr_o8 : Fr [(0, 0), (0, 2), (0, 32), (1, 9999), (16, 9999), (21, 9999), (25, 9999), (26, 9999), (27, 9999), (29, 9999), (30, 9999), (32, 9999), (34, 9999)] o o8 := Fr.tr fr_o3 fc_o8 rfl
                  have g0_27_o8 : o8.1 0 27 = o3.1 0 27 := fc_o8.1 0 27 rfl
                  have g0_32_o8 : o8.1 0 32 = o3.1 0 32 := fc_o8.1 0 32 rfl
                  have g0_17_o8 : o8.1 0 17 = o3.1 0 17 := fc_o8.1 0 17 rfl
                  refine T_some ?_
                  show BoxM o8 ∧ (Fr [(0, 0), (0, 2), (0, 32), (1, 9999), (16, 9999), (21, 9999), (25, 9999), (26, 9999), (27, 9999), (29, 9999), (30, 9999), (32, 9999), (34, 9999)] o o8)
                  exact ⟨hB_o8, fr_o8⟩
                ·
                  unfold b_X12_take_109
                  refine T_qB2 (t_X12_enter o 3 x2 hB_o (by omega) (by omega) (by omega)) (fun r17 o19 hc_r17 hp26 => ?_)
                  replace hp26 : BoxM o19 ∧ (Fr [(0, 32), (25, 9999), (26, 9999), (27, 9999), (29, 9999), (30, 9999)] o o19) ∧ (r17 = o.1 0 32) ∧ (o19.1 0 32 = o.1 0 32 + 1) := hp26
                  obtain ⟨hB_o19, fc_o19, hp26⟩ := hp26
                  have fr_o19 : Fr [(0, 0), (0, 2), (0, 32), (1, 9999), (16, 9999), (21, 9999), (25, 9999), (26, 9999), (27, 9999), (29, 9999), (30, 9999), (32, 9999), (34, 9999)] o o19 := Fr.tr fr_o fc_o19 rfl
                  have g0_27_o19 : o19.1 0 27 = o.1 0 27 := fc_o19.1 0 27 rfl
                  have g0_32_o19 := bM_0_32 hB_o19
                  have g0_17_o19 : o19.1 0 17 = o.1 0 17 := fc_o19.1 0 17 rfl
                  refine T_qB (t_X12_nowInForce o19 2 hB_o19 (by omega)) (fun r20 hc_r20 hp27 => ?_)
                  replace hp27 : (0 ≤ r20 ∧ r20 ≤ 9999) := hp27
                  have hm9 := mul_rng (a := r20) (b := r45) (A := 9999) (B := 100000) (by omega) (by omega) (by omega) (by omega)
                  refine T_qDv ⟨⟨by omega, by omega⟩, ⟨by decide, by decide⟩, by decide⟩ ?_
                  have jd28 : jq (r20 * r45) 100 = (r20 * r45) / 100 := jq_nn (by omega)
                  refine T_qIn ⟨by omega, by omega⟩ ?_
                  refine T_qNm (fun o24 e_o24 => ?_)
                  have hB_o24 : BoxM o24 := by rw [e_o24]; exact Box.s1 hB_o19 (show 0 ≤ (jq (r20 * r45) 100) ∧ (jq (r20 * r45) 100) ≤ 10000000 from ⟨by omega, by omega⟩)
                  have fr_o24 : Fr [(0, 0), (0, 2), (0, 32), (1, 9999), (16, 9999), (21, 9999), (25, 9999), (26, 9999), (27, 9999), (29, 9999), (30, 9999), (32, 9999), (34, 9999)] o o24 := by rw [e_o24]; exact Fr.s1 fr_o19 rfl
                  have g0_27_o24 : o24.1 0 27 = o19.1 0 27 := by rw [e_o24]; rfl
                  have g0_32_o24 : o24.1 0 32 = o19.1 0 32 := by rw [e_o24]; rfl
                  have g0_17_o24 : o24.1 0 17 = o19.1 0 17 := by rw [e_o24]; rfl
                  refine T_qIn ⟨by omega, by omega⟩ ?_
                  refine T_qNm (fun o26 e_o26 => ?_)
                  have hB_o26 : BoxM o26 := by rw [e_o26]; exact Box.s2 hB_o24
                  have fr_o26 : Fr [(0, 0), (0, 2), (0, 32), (1, 9999), (16, 9999), (21, 9999), (25, 9999), (26, 9999), (27, 9999), (29, 9999), (30, 9999), (32, 9999), (34, 9999)] o o26 := by rw [e_o26]; exact Fr.s2 fr_o24 rfl
                  have g0_27_o26 : o26.1 0 27 = o24.1 0 27 := by rw [e_o26]; rfl
                  have g0_32_o26 : o26.1 0 32 = o24.1 0 32 := by rw [e_o26]; rfl
                  have g0_17_o26 : o26.1 0 17 = o24.1 0 17 := by rw [e_o26]; rfl
                  unfold e_X12_take_146
                  refine T_qB (tl_X12_take_146 x1 r17 o26 0 hB_o26 (by omega) (by omega) (by omega)) (fun r29 hc_r29 hp30 => ?_)
                  obtain ⟨o_31, q_o_31⟩ : ∃ q, q = r29 := ⟨_, rfl⟩
                  subst q_o_31
                  replace hp30 : BoxM o_31 ∧ (Fr [(21, 9999), (34, 9999)] o26 o_31) := hp30
                  have hps_hp30 := hp30
                  obtain ⟨hp30_0, hp30_1⟩ := hps_hp30
                  obtain ⟨hB_o_31, fc_o_31⟩ := hp30
                  have fr_o_31 : Fr [(0, 0), (0, 2), (0, 32), (1, 9999), (16, 9999), (21, 9999), (25, 9999), (26, 9999), (27, 9999), (29, 9999), (30, 9999), (32, 9999), (34, 9999)] o o_31 := Fr.tr fr_o26 fc_o_31 rfl
                  have g0_27_o_31 : o_31.1 0 27 = o26.1 0 27 := fc_o_31.1 0 27 rfl
                  have g0_32_o_31 : o_31.1 0 32 = o26.1 0 32 := fc_o_31.1 0 32 rfl
                  have g0_17_o_31 : o_31.1 0 17 = o26.1 0 17 := fc_o_31.1 0 17 rfl
                  show T (b_X12_take_195 o_31 x1 r17) _
                  unfold b_X12_take_195
                  refine T_qIn ⟨by omega, by omega⟩ ?_
                  refine T_qZ (Or.inr rfl) ?_
                  refine T_qNm (fun o3 e_o3 => ?_)
                  have hB_o3 : BoxM o3 := by rw [e_o3]; exact Box.s1 hB_o_31 (show 0 ≤ 1 ∧ 1 ≤ 1 from ⟨by omega, by omega⟩)
                  have fr_o3 : Fr [(0, 0), (0, 2), (0, 32), (1, 9999), (16, 9999), (21, 9999), (25, 9999), (26, 9999), (27, 9999), (29, 9999), (30, 9999), (32, 9999), (34, 9999)] o o3 := by rw [e_o3]; exact Fr.s1 fr_o_31 rfl
                  have g0_27_o3 : o3.1 0 27 = o_31.1 0 27 := by rw [e_o3]; rfl
                  have g0_32_o3 : o3.1 0 32 = o_31.1 0 32 := by rw [e_o3]; rfl
                  have g0_17_o3 : o3.1 0 17 = o_31.1 0 17 := by rw [e_o3]; rfl
                  refine T_qIn ⟨by omega, by omega⟩ ?_
                  refine T_qNm (fun n5 e_n5 => ?_)
                  have b_n5 : 0 ≤ n5 ∧ n5 ≤ 10000000 := by rw [e_n5]; exact bM_32 hB_o3 _
                  refine T_qB2 (t_X12_ask o3 n5 r17 hB_o3) (fun r6 o8 hc_r6 hp32 => ?_)
                  replace hp32 : BoxM o8 ∧ (Fr [(0, 2)] o3 o8) ∧ (r6 = r17) := hp32
                  obtain ⟨hB_o8, fc_o8, hp32⟩ := hp32
                  have fr_o8 : Fr [(0, 0), (0, 2), (0, 32), (1, 9999), (16, 9999), (21, 9999), (25, 9999), (26, 9999), (27, 9999), (29, 9999), (30, 9999), (32, 9999), (34, 9999)] o o8 := Fr.tr fr_o3 fc_o8 rfl
                  have g0_27_o8 : o8.1 0 27 = o3.1 0 27 := fc_o8.1 0 27 rfl
                  have g0_32_o8 : o8.1 0 32 = o3.1 0 32 := fc_o8.1 0 32 rfl
                  have g0_17_o8 : o8.1 0 17 = o3.1 0 17 := fc_o8.1 0 17 rfl
                  refine T_some ?_
                  show BoxM o8 ∧ (Fr [(0, 0), (0, 2), (0, 32), (1, 9999), (16, 9999), (21, 9999), (25, 9999), (26, 9999), (27, 9999), (29, 9999), (30, 9999), (32, 9999), (34, 9999)] o o8)
                  exact ⟨hB_o8, fr_o8⟩
            ·
              unfold b_X12_take_79
              refine T_some ?_
              show BoxM o ∧ (Fr [(0, 0), (0, 2), (0, 32), (1, 9999), (16, 9999), (21, 9999), (25, 9999), (26, 9999), (27, 9999), (29, 9999), (30, 9999), (32, 9999), (34, 9999)] o o)
              exact ⟨hB_o, fr_o⟩
set_option maxRecDepth 20000 in
set_option maxHeartbeats 4000000 in
theorem t_X12_tear (o : OO) (x1 : Int) (hB_o : BoxM o) (k0 : inR x1) : T (s_X12_tear o x1) (fun v => BoxM v.2 ∧ (Fr [(0, 0), (1, 9999), (2, 9999)] o v.2)) := by
  have fr_o : Fr [(0, 0), (1, 9999), (2, 9999)] o o := Fr.rf
  unfold s_X12_tear
  refine T_qB2 (t_X12_askedRow o x1 hB_o (by omega)) (fun r1 o3 hc_r1 hp1 => ?_)
  replace hp1 : BoxM o3 ∧ (Fr [(0, 0), (1, 9999)] o o3) ∧ (r1 = -1 ∨ r1 = -3 ∨ (r1 = 0 ∧ 0 ≤ x1 ∧ x1 ≤ 5 ∧ 0 ≤ o3.1 2 x1.toNat)) := hp1
  obtain ⟨hB_o3, fc_o3, hp1⟩ := hp1
  have fr_o3 : Fr [(0, 0), (1, 9999), (2, 9999)] o o3 := Fr.tr fr_o fc_o3 rfl
  refine T_qLt ⟨by omega, by omega⟩ ⟨by decide, by decide⟩ (fun h2 => ?_) (fun h2 => ?_)
  ·
    refine T_some ?_
    show BoxM o3 ∧ (Fr [(0, 0), (1, 9999), (2, 9999)] o o3)
    exact ⟨hB_o3, fr_o3⟩
  ·
    refine T_qIn ⟨by omega, by omega⟩ ?_
    refine T_qNm (fun o5 e_o5 => ?_)
    have hB_o5 : BoxM o5 := by rw [e_o5]; exact Box.s1 hB_o3 (show -9 ≤ (-9) ∧ (-9) ≤ 40 from ⟨by omega, by omega⟩)
    have fr_o5 : Fr [(0, 0), (1, 9999), (2, 9999)] o o5 := by rw [e_o5]; exact Fr.s1 fr_o3 rfl
    refine T_some ?_
    show BoxM o5 ∧ (Fr [(0, 0), (1, 9999), (2, 9999)] o o5)
    exact ⟨hB_o5, fr_o5⟩
set_option maxRecDepth 20000 in
set_option maxHeartbeats 4000000 in
theorem tl_X12_text_34 (x1 : Int) (x2 : Int) (i_o : OO) (i_x3 : Int) (hB_i_o : BoxM i_o) (k0 : inR x1) (k1 : inR x2) (k2 : 0 ≤ x1 ∧ x1 ≤ 3) (v0 : 0 ≤ i_x3 ∧ i_x3 ≤ 40) : T (loopW (fun s => l_X12_text_34 x1 x2 s.1 s.2) (i_o, i_x3)) (fun r => BoxM r ∧ (Fr [(6, 9999)] i_o r)) := by
  have fr_i_o : Fr [(6, 9999)] i_o i_o := Fr.rf
  refine T_loop (fun s => BoxM s.1 ∧ (Fr [(6, 9999)] i_o s.1) ∧ (0 ≤ s.2 ∧ s.2 ≤ 40)) (fun s => (40 - s.2).toNat) (by exact ⟨hB_i_o, fr_i_o, v0⟩) (fun s hs => ?_)
  obtain ⟨o, x3⟩ := s
  replace hs : BoxM o ∧ (Fr [(6, 9999)] i_o o) ∧ (0 ≤ x3 ∧ x3 ≤ 40) := hs
  obtain ⟨hB_o, fr_o, w0⟩ := hs
  show T (l_X12_text_34 x1 x2 o x3) _
  unfold l_X12_text_34
  refine T_qLt ⟨by omega, by omega⟩ ⟨by decide, by decide⟩ (fun h1 => ?_) (fun h1 => ?_)
  ·
    refine T_qIn ⟨by omega, by omega⟩ ?_
    refine T_qNm (fun o2 e_o2 => ?_)
    have hB_o2 : BoxM o2 := by rw [e_o2]; exact Box.s1 hB_o (show -128 ≤ 32 ∧ 32 ≤ 127 from ⟨by omega, by omega⟩)
    have fr_o2 : Fr [(6, 9999)] i_o o2 := by rw [e_o2]; exact Fr.s1 fr_o rfl
    refine T_some ?_
    show (BoxM o2 ∧ (Fr [(6, 9999)] i_o o2) ∧ (0 ≤ (x3 + 1) ∧ (x3 + 1) ≤ 40)) ∧ (40 - (x3 + 1)).toNat < (40 - x3).toNat
    exact ⟨⟨hB_o2, fr_o2, (by omega)⟩, by omega⟩
  ·
    refine T_some ?_
    show BoxM o ∧ (Fr [(6, 9999)] i_o o)
    exact ⟨hB_o, fr_o⟩
set_option maxRecDepth 20000 in
set_option maxHeartbeats 4000000 in
theorem t_X12_text (o : OO) (x1 : Int) (x2 : Int) (hB_o : BoxM o) (k0 : inR x1) (k1 : inR x2) : T (s_X12_text o x1 x2) (fun v => BoxM v.2 ∧ (Fr [(0, 0), (1, 9999), (5, 9999), (6, 9999)] o v.2)) := by
  have fr_o : Fr [(0, 0), (1, 9999), (5, 9999), (6, 9999)] o o := Fr.rf
  unfold s_X12_text
  refine T_qB (t_X12_isText x1 (by omega)) (fun r3 hc_r3 hp2 => ?_)
  replace hp2 : ((r3 = 1 ∧ 0 ≤ x1 ∧ x1 ≤ 3) ∨ (r3 = 0 ∧ (x1 < 0 ∨ 3 < x1))) := hp2
  refine T_qEq ⟨by omega, by omega⟩ ⟨by decide, by decide⟩ (fun h3 => ?_) (fun h3 => ?_)
  ·
    unfold b_X12_text_13
    refine T_some ?_
    show BoxM o ∧ (Fr [(0, 0), (1, 9999), (5, 9999), (6, 9999)] o o)
    exact ⟨hB_o, fr_o⟩
  ·
    refine T_qLt ⟨by decide, by decide⟩ ⟨by omega, by omega⟩ (fun h4 => ?_) (fun h4 => ?_)
    ·
      unfold b_X12_text_13
      refine T_some ?_
      show BoxM o ∧ (Fr [(0, 0), (1, 9999), (5, 9999), (6, 9999)] o o)
      exact ⟨hB_o, fr_o⟩
    ·
      refine T_qLt ⟨by omega, by omega⟩ ⟨by decide, by decide⟩ (fun h5 => ?_) (fun h5 => ?_)
      ·
        refine T_qB2 (t_X12_meets o 5 hB_o (by omega)) (fun r7 o9 hc_r7 hp6 => ?_)
        replace hp6 : BoxM o9 ∧ (Fr [(0, 0), (1, 9999)] o o9) ∧ (r7 = -3) := hp6
        obtain ⟨hB_o9, fc_o9, hp6⟩ := hp6
        have fr_o9 : Fr [(0, 0), (1, 9999), (5, 9999), (6, 9999)] o o9 := Fr.tr fr_o fc_o9 rfl
        refine T_some ?_
        show BoxM o9 ∧ (Fr [(0, 0), (1, 9999), (5, 9999), (6, 9999)] o o9)
        exact ⟨hB_o9, fr_o9⟩
      ·
        refine T_qIn ⟨by omega, by omega⟩ ?_
        refine T_qNm (fun o6 e_o6 => ?_)
        have hB_o6 : BoxM o6 := by rw [e_o6]; exact Box.s1 hB_o (show -9 ≤ x2 ∧ x2 ≤ 40 from ⟨by omega, by omega⟩)
        have fr_o6 : Fr [(0, 0), (1, 9999), (5, 9999), (6, 9999)] o o6 := by rw [e_o6]; exact Fr.s1 fr_o rfl
        unfold e_X12_text_34
        refine T_qB (tl_X12_text_34 x1 x2 o6 0 hB_o6 (by omega) (by omega) (by omega) (by omega)) (fun r7 hc_r7 hp8 => ?_)
        obtain ⟨o_9, q_o_9⟩ : ∃ q, q = r7 := ⟨_, rfl⟩
        subst q_o_9
        replace hp8 : BoxM o_9 ∧ (Fr [(6, 9999)] o6 o_9) := hp8
        have hps_hp8 := hp8
        obtain ⟨hp8_0, hp8_1⟩ := hps_hp8
        obtain ⟨hB_o_9, fc_o_9⟩ := hp8
        have fr_o_9 : Fr [(0, 0), (1, 9999), (5, 9999), (6, 9999)] o o_9 := Fr.tr fr_o6 fc_o_9 rfl
        show T (b_X12_text_59 o_9 x2) _
        unfold b_X12_text_59
        refine T_some ?_
        show BoxM o_9 ∧ (Fr [(0, 0), (1, 9999), (5, 9999), (6, 9999)] o o_9)
        exact ⟨hB_o_9, fr_o_9⟩
set_option maxRecDepth 20000 in
set_option maxHeartbeats 4000000 in
theorem t_X12_told (o : OO) (x1 : Int) (x2 : Int) (hB_o : BoxM o) (k0 : inR x1) (k1 : inR x2) : T (s_X12_told o x1 x2) (fun v => BoxM v.2 ∧ (Fr [(0, 2)] o v.2)) := by
  have fr_o : Fr [(0, 2)] o o := Fr.rf
  have g0_32_o := bM_0_32 hB_o
  unfold s_X12_told
  refine T_qB (t_X12_isMark o x1 hB_o (by omega)) (fun r1 hc_r1 hp1 => ?_)
  replace hp1 : ((r1 = 1 ∧ 0 ≤ x1 ∧ x1 < o.1 0 32) ∨ (r1 = 0 ∧ (x1 < 0 ∨ o.1 0 32 ≤ x1))) := hp1
  refine T_qEq ⟨by omega, by omega⟩ ⟨by decide, by decide⟩ (fun h2 => ?_) (fun h2 => ?_)
  ·
    unfold b_X12_told_31
    unfold b_X12_told_32
    refine T_some ?_
    show BoxM o ∧ (Fr [(0, 2)] o o)
    exact ⟨hB_o, fr_o⟩
  ·
    refine T_qB (t_X12_in x2 0 2 (by omega) (by omega) (by omega)) (fun r3 hc_r3 hp3 => ?_)
    replace hp3 : ((r3 = 1 ∧ 0 ≤ x2 ∧ x2 ≤ 2) ∨ (r3 = 0 ∧ (x2 < 0 ∨ 2 < x2))) := hp3
    refine T_qEq ⟨by omega, by omega⟩ ⟨by decide, by decide⟩ (fun h4 => ?_) (fun h4 => ?_)
    ·
      unfold b_X12_told_31
      unfold b_X12_told_32
      refine T_some ?_
      show BoxM o ∧ (Fr [(0, 2)] o o)
      exact ⟨hB_o, fr_o⟩
    ·
      refine T_qB (t_X12_markTells o x1 x2 hB_o (by omega) (by omega)) (fun r5 hc_r5 hp5 => ?_)
      replace hp5 : (inR r5) := hp5
      refine T_qB2 (t_X12_ask o r5 1 hB_o) (fun r7 o9 hc_r7 hp6 => ?_)
      replace hp6 : BoxM o9 ∧ (Fr [(0, 2)] o o9) ∧ (r7 = 1) := hp6
      obtain ⟨hB_o9, fc_o9, hp6⟩ := hp6
      have fr_o9 : Fr [(0, 2)] o o9 := Fr.tr fr_o fc_o9 rfl
      have g0_32_o9 : o9.1 0 32 = o.1 0 32 := fc_o9.1 0 32 rfl
      unfold b_X12_told_32
      refine T_some ?_
      show BoxM o9 ∧ (Fr [(0, 2)] o o9)
      exact ⟨hB_o9, fr_o9⟩
set_option maxRecDepth 20000 in
set_option maxHeartbeats 4000000 in
theorem t_X12_value (o : OO) (x1 : Int) (x2 : Int) (hB_o : BoxM o) (k0 : inR x1) (k1 : inR x2) : T (s_X12_value o x1 x2) (fun _ => True) := by
  have g0_17_o := bM_0_17 hB_o
  unfold s_X12_value
  refine T_qB (t_X12_isBuilding o x1 hB_o (by omega)) (fun r1 hc_r1 hp1 => ?_)
  replace hp1 : ((r1 = 1 ∧ 0 ≤ x1 ∧ x1 < o.1 0 17) ∨ (r1 = 0 ∧ (x1 < 0 ∨ o.1 0 17 ≤ x1))) := hp1
  refine T_qEq ⟨by omega, by omega⟩ ⟨by decide, by decide⟩ (fun h2 => ?_) (fun h2 => ?_)
  ·
    unfold b_X12_value_24
    unfold b_X12_value_25
    refine T_some ?_
    show True
    exact trivial
  ·
    refine T_qB (t_X12_isDay x2 (by omega)) (fun r3 hc_r3 hp3 => ?_)
    replace hp3 : ((r3 = 1 ∧ 0 ≤ x2 ∧ x2 ≤ 999) ∨ (r3 = 0 ∧ (x2 < 0 ∨ 999 < x2))) := hp3
    refine T_qEq ⟨by omega, by omega⟩ ⟨by decide, by decide⟩ (fun h4 => ?_) (fun h4 => ?_)
    ·
      unfold b_X12_value_24
      unfold b_X12_value_25
      refine T_some ?_
      show True
      exact trivial
    ·
      refine T_qB (t_X12_valueOf o x1 x2 hB_o (by omega) (by omega)) (fun r5 hc_r5 hp5 => ?_)
      replace hp5 : (-9 ≤ r5 ∧ r5 ≤ 100000) ∧ (r5 = -9 ∨ 0 ≤ r5) := hp5
      have hps_hp5 := hp5
      obtain ⟨hp5_0, hp5_1⟩ := hps_hp5
      replace hp5 := hid hp5
      unfold b_X12_value_25
      refine T_some ?_
      show True
      exact trivial
set_option maxRecDepth 20000 in
set_option maxHeartbeats 4000000 in
theorem t_X12_walk (o : OO) (x1 : Int) (x2 : Int) (hB_o : BoxM o) (k0 : 0 ≤ x1 ∧ x1 ≤ 39) (k1 : 0 ≤ x2 ∧ x2 ≤ 31) : T (s_X12_walk o x1 x2) (fun v => (0 ≤ v ∧ v ≤ 14)) := by
  unfold s_X12_walk
  refine T_qIn ⟨by omega, by omega⟩ ?_
  refine T_qNm (fun n2 e_n2 => ?_)
  have b_n2 : -9 ≤ n2 ∧ n2 ≤ 63 := by rw [e_n2]; exact bM_22 hB_o _
  refine T_qLt ⟨by omega, by omega⟩ ⟨by decide, by decide⟩ (fun h1 => ?_) (fun h1 => ?_)
  ·
    unfold b_X12_walk_28
    refine T_some ?_
    show (0 ≤ 0 ∧ 0 ≤ 14)
    exact (by omega)
  ·
    refine T_qIn ⟨by omega, by omega⟩ ?_
    refine T_qNm (fun n4 e_n4 => ?_)
    have b_n4 : -9 ≤ n4 ∧ n4 ≤ 63 := by rw [e_n4]; exact bM_22 hB_o _
    refine T_qIn ⟨by omega, by omega⟩ ?_
    refine T_qNm (fun n6 e_n6 => ?_)
    have b_n6 : 0 ≤ n6 ∧ n6 ≤ 63 := by rw [e_n6]; exact bM_13 hB_o _
    refine T_qB (t_X12_apart n4 n6 (by omega) (by omega)) (fun r7 hc_r7 hp2 => ?_)
    replace hp2 : (0 ≤ r7 ∧ r7 ≤ 14) := hp2
    unfold b_X12_walk_28
    refine T_some ?_
    show (0 ≤ r7 ∧ r7 ≤ 14)
    exact (by omega)
set_option maxRecDepth 20000 in
set_option maxHeartbeats 4000000 in
theorem t_X12_relax (o : OO) (x1 : Int) (x2 : Int) (x3 : Int) (x4 : Int) (hB_o : BoxM o) (k0 : 0 ≤ x1 ∧ x1 ≤ 31) (k1 : inR x2) (k2 : 0 ≤ x3 ∧ x3 ≤ 39) (k3 : -9 ≤ x4 ∧ x4 ≤ 31) : T (s_X12_relax o x1 x2 x3 x4) (fun v => BoxM v.2 ∧ (Fr [(49, 9999), (50, 9999), (51, 9999)] o v.2) ∧ (0 ≤ v.1 ∧ v.1 ≤ 1)) := by
  have fr_o : Fr [(49, 9999), (50, 9999), (51, 9999)] o o := Fr.rf
  unfold s_X12_relax
  refine T_qIn ⟨by omega, by omega⟩ ?_
  refine T_qNm (fun n2 e_n2 => ?_)
  have b_n2 : -40 ≤ n2 ∧ n2 ≤ 20 := by rw [e_n2]; exact bM_48 hB_o _
  refine T_qLt ⟨by omega, by omega⟩ ⟨by decide, by decide⟩ (fun h1 => ?_) (fun h1 => ?_)
  ·
    unfold b_X12_relax_19
    refine T_qZ (Or.inl rfl) ?_
    refine T_some ?_
    show BoxM o ∧ (Fr [(49, 9999), (50, 9999), (51, 9999)] o o) ∧ (0 ≤ 0 ∧ 0 ≤ 1)
    exact ⟨hB_o, fr_o, (by omega)⟩
  ·
    refine T_qIn ⟨by omega, by omega⟩ ?_
    refine T_qNm (fun n4 e_n4 => ?_)
    have b_n4 : -2147483648 ≤ n4 ∧ n4 ≤ 2147483647 := by rw [e_n4]; exact bM_49 hB_o _
    refine T_qLt ⟨by omega, by omega⟩ ⟨by omega, by omega⟩ (fun h2 => ?_) (fun h2 => ?_)
    ·
      refine T_qIn ⟨by omega, by omega⟩ ?_
      refine T_qNm (fun o6 e_o6 => ?_)
      have hB_o6 : BoxM o6 := by rw [e_o6]; exact Box.s1 hB_o (show -2147483648 ≤ x2 ∧ x2 ≤ 2147483647 from ⟨by omega, by omega⟩)
      have fr_o6 : Fr [(49, 9999), (50, 9999), (51, 9999)] o o6 := by rw [e_o6]; exact Fr.s1 fr_o rfl
      refine T_qIn ⟨by omega, by omega⟩ ?_
      refine T_qNm (fun o8 e_o8 => ?_)
      have hB_o8 : BoxM o8 := by rw [e_o8]; exact Box.s1 hB_o6 (show 0 ≤ x3 ∧ x3 ≤ 39 from ⟨by omega, by omega⟩)
      have fr_o8 : Fr [(49, 9999), (50, 9999), (51, 9999)] o o8 := by rw [e_o8]; exact Fr.s1 fr_o6 rfl
      refine T_qIn ⟨by omega, by omega⟩ ?_
      refine T_qNm (fun o10 e_o10 => ?_)
      have hB_o10 : BoxM o10 := by rw [e_o10]; exact Box.s1 hB_o8 (show -9 ≤ x4 ∧ x4 ≤ 31 from ⟨by omega, by omega⟩)
      have fr_o10 : Fr [(49, 9999), (50, 9999), (51, 9999)] o o10 := by rw [e_o10]; exact Fr.s1 fr_o8 rfl
      refine T_qZ (Or.inr rfl) ?_
      refine T_some ?_
      show BoxM o10 ∧ (Fr [(49, 9999), (50, 9999), (51, 9999)] o o10) ∧ (0 ≤ 1 ∧ 1 ≤ 1)
      exact ⟨hB_o10, fr_o10, (by omega)⟩
    ·
      unfold b_X12_relax_19
      refine T_qZ (Or.inl rfl) ?_
      refine T_some ?_
      show BoxM o ∧ (Fr [(49, 9999), (50, 9999), (51, 9999)] o o) ∧ (0 ≤ 0 ∧ 0 ≤ 1)
      exact ⟨hB_o, fr_o, (by omega)⟩
theorem t_X12_cheapest (o : OO) (hB_o : BoxM o) : T (s_X12_cheapest o) (fun v => BoxM v.2 ∧ (Fr [(49, 9999), (50, 9999), (51, 9999)] o v.2) ∧ (v.1 = -9 ∨ (0 ≤ v.1 ∧ v.1 < o.1 0 17))) := by sorry
theorem t_X12_whither (o : OO) (x1 : Int) (hB_o : BoxM o) (k0 : inR x1) : T (s_X12_whither o x1) (fun v => BoxM v.2 ∧ (Fr [(0, 0), (0, 2), (1, 9999), (46, 9999), (47, 9999), (48, 9999), (49, 9999), (50, 9999), (51, 9999)] o v.2)) := by sorry
set_option maxRecDepth 20000 in
set_option maxHeartbeats 4000000 in
theorem t_X12_who (o : OO) (x1 : Int) (x2 : Int) (hB_o : BoxM o) (k0 : inR x1) (k1 : inR x2) : T (s_X12_who o x1 x2) (fun v => BoxM v.2 ∧ (Fr [(0, 2)] o v.2)) := by
  have fr_o : Fr [(0, 2)] o o := Fr.rf
  have g0_27_o := bM_0_27 hB_o
  unfold s_X12_who
  refine T_qB (t_X12_isPerson o x1 hB_o (by omega)) (fun r1 hc_r1 hp1 => ?_)
  replace hp1 : ((r1 = 1 ∧ 0 ≤ x1 ∧ x1 < o.1 0 27) ∨ (r1 = 0 ∧ (x1 < 0 ∨ o.1 0 27 ≤ x1))) := hp1
  refine T_qEq ⟨by omega, by omega⟩ ⟨by decide, by decide⟩ (fun h2 => ?_) (fun h2 => ?_)
  ·
    unfold b_X12_who_31
    unfold b_X12_who_32
    refine T_some ?_
    show BoxM o ∧ (Fr [(0, 2)] o o)
    exact ⟨hB_o, fr_o⟩
  ·
    refine T_qB (t_X12_in x2 0 3 (by omega) (by omega) (by omega)) (fun r3 hc_r3 hp3 => ?_)
    replace hp3 : ((r3 = 1 ∧ 0 ≤ x2 ∧ x2 ≤ 3) ∨ (r3 = 0 ∧ (x2 < 0 ∨ 3 < x2))) := hp3
    refine T_qEq ⟨by omega, by omega⟩ ⟨by decide, by decide⟩ (fun h4 => ?_) (fun h4 => ?_)
    ·
      unfold b_X12_who_31
      unfold b_X12_who_32
      refine T_some ?_
      show BoxM o ∧ (Fr [(0, 2)] o o)
      exact ⟨hB_o, fr_o⟩
    ·
      refine T_qB (t_X12_personTells o x1 x2 hB_o (by omega) (by omega)) (fun r5 hc_r5 hp5 => ?_)
      replace hp5 : (inR r5) := hp5
      refine T_qB2 (t_X12_ask o r5 1 hB_o) (fun r7 o9 hc_r7 hp6 => ?_)
      replace hp6 : BoxM o9 ∧ (Fr [(0, 2)] o o9) ∧ (r7 = 1) := hp6
      obtain ⟨hB_o9, fc_o9, hp6⟩ := hp6
      have fr_o9 : Fr [(0, 2)] o o9 := Fr.tr fr_o fc_o9 rfl
      have g0_27_o9 : o9.1 0 27 = o.1 0 27 := fc_o9.1 0 27 rfl
      unfold b_X12_who_32
      refine T_some ?_
      show BoxM o9 ∧ (Fr [(0, 2)] o o9)
      exact ⟨hB_o9, fr_o9⟩
set_option maxRecDepth 20000 in
set_option maxHeartbeats 4000000 in
theorem t_X12_why (o : OO) (x1 : Int) (x2 : Int) (x3 : Int) (hB_o : BoxM o) (k0 : inR x1) (k1 : inR x2) (k2 : inR x3) : T (s_X12_why o x1 x2 x3) (fun _ => True) := by
  have g0_10_o := bM_0_10 hB_o
  unfold s_X12_why
  refine T_qB (t_X12_isAsked x1 x2 x3 (by omega) (by omega) (by omega)) (fun r1 hc_r1 hp1 => ?_)
  replace hp1 : ((r1 = 1 ∧ 0 ≤ x1 ∧ x1 ≤ 7) ∨ r1 = 0) := hp1
  refine T_qEq ⟨by omega, by omega⟩ ⟨by decide, by decide⟩ (fun h2 => ?_) (fun h2 => ?_)
  ·
    unfold b_X12_why_20
    refine T_some ?_
    show True
    exact trivial
  ·
    refine T_qB (t_X12_ruleFor o x1 x2 x3 hB_o (by omega) (by omega) (by omega)) (fun r3 hc_r3 hp3 => ?_)
    replace hp3 : ((r3 = -9 ∨ (0 ≤ r3 ∧ 0 ≤ o.1 9 (8 * r3 + x1).toNat)) ∧ r3 < o.1 0 10) := hp3
    unfold b_X12_why_20
    refine T_some ?_
    show True
    exact trivial
set_option maxRecDepth 20000 in
set_option maxHeartbeats 4000000 in
theorem t_X12_worth (o : OO) (x1 : Int) (x2 : Int) (hB_o : BoxM o) (k0 : inR x1) (k1 : inR x2) : T (s_X12_worth o x1 x2) (fun v => BoxM v.2 ∧ (Fr [(0, 23), (18, 9999), (19, 9999), (20, 9999)] o v.2) ∧ (inR v.1) ∧ (HT o → HT v.2)) := by
  have fr_o : Fr [(0, 23), (18, 9999), (19, 9999), (20, 9999)] o o := Fr.rf
  have g0_23_o := bM_0_23 hB_o
  have g0_4_o := bM_0_4 hB_o
  have g0_17_o := bM_0_17 hB_o
  unfold s_X12_worth
  refine T_qB (t_X12_isBuilding o x1 hB_o (by omega)) (fun r1 hc_r1 hp1 => ?_)
  replace hp1 : ((r1 = 1 ∧ 0 ≤ x1 ∧ x1 < o.1 0 17) ∨ (r1 = 0 ∧ (x1 < 0 ∨ o.1 0 17 ≤ x1))) := hp1
  refine T_qEq ⟨by omega, by omega⟩ ⟨by decide, by decide⟩ (fun h2 => ?_) (fun h2 => ?_)
  ·
    unfold b_X12_worth_15
    refine T_some ?_
    show BoxM o ∧ (Fr [(0, 23), (18, 9999), (19, 9999), (20, 9999)] o o) ∧ (inR (-1)) ∧ (HT o → HT o)
    exact ⟨hB_o, fr_o, (by omega), (by first | exact (fun h => h) | assumption | omega)⟩
  ·
    refine T_qB (t_X12_isWorth x2 (by omega)) (fun r3 hc_r3 hp3 => ?_)
    replace hp3 : ((r3 = 1 ∧ 1 ≤ x2 ∧ x2 ≤ 100000) ∨ (r3 = 0 ∧ (x2 < 1 ∨ 100000 < x2))) := hp3
    refine T_qEq ⟨by omega, by omega⟩ ⟨by decide, by decide⟩ (fun h4 => ?_) (fun h4 => ?_)
    ·
      unfold b_X12_worth_15
      refine T_some ?_
      show BoxM o ∧ (Fr [(0, 23), (18, 9999), (19, 9999), (20, 9999)] o o) ∧ (inR (-1)) ∧ (HT o → HT o)
      exact ⟨hB_o, fr_o, (by omega), (by first | exact (fun h => h) | assumption | omega)⟩
    ·
      refine T_qIn ⟨by omega, by omega⟩ ?_
      refine T_qNm (fun n6 e_n6 => ?_)
      have b_n6 : 0 ≤ n6 ∧ n6 ≤ 1 := by rw [e_n6]; exact bM_16 hB_o _
      refine T_qEq ⟨by omega, by omega⟩ ⟨by decide, by decide⟩ (fun h5 => ?_) (fun h5 => ?_)
      ·
        refine T_qEq ⟨by omega, by omega⟩ ⟨by decide, by decide⟩ (fun h6 => ?_) (fun h6 => ?_)
        ·
          refine T_some ?_
          show BoxM o ∧ (Fr [(0, 23), (18, 9999), (19, 9999), (20, 9999)] o o) ∧ (inR (-2)) ∧ (HT o → HT o)
          exact ⟨hB_o, fr_o, (by omega), (by first | exact (fun h => h) | assumption | omega)⟩
        ·
          refine T_qB (t_X12_valueOf o x1 (o.1 0 4) hB_o (by omega) (by omega)) (fun r7 hc_r7 hp7 => ?_)
          replace hp7 : (-9 ≤ r7 ∧ r7 ≤ 100000) ∧ (r7 = -9 ∨ 0 ≤ r7) := hp7
          have hps_hp7 := hp7
          obtain ⟨hp7_0, hp7_1⟩ := hps_hp7
          replace hp7 := hid hp7
          refine T_qB (t_X12_tell o x1 x2 hB_o (by omega) (by omega) (by omega)) (fun o11 hc_o11 hp8 => ?_)
          replace hp8 : BoxM o11 ∧ (Fr [(0, 23), (18, 9999), (19, 9999), (20, 9999)] o o11) ∧ (o11.1 0 23 = o.1 0 23 + 1) ∧ (HT o → HT o11) ∧ (o11.1 18 (o.1 0 23).toNat = x1) := hp8
          obtain ⟨hB_o11, fc_o11, hp8⟩ := hp8
          have fr_o11 : Fr [(0, 23), (18, 9999), (19, 9999), (20, 9999)] o o11 := Fr.tr fr_o fc_o11 rfl
          have g0_23_o11 := bM_0_23 hB_o11
          have g0_4_o11 : o11.1 0 4 = o.1 0 4 := fc_o11.1 0 4 rfl
          have g0_17_o11 : o11.1 0 17 = o.1 0 17 := fc_o11.1 0 17 rfl
          have ht11 : HT o → HT o11 := hp8.2.1
          refine T_some ?_
          show BoxM o11 ∧ (Fr [(0, 23), (18, 9999), (19, 9999), (20, 9999)] o o11) ∧ (inR r7) ∧ (HT o → HT o11)
          exact ⟨hB_o11, fr_o11, (by omega), (by first | exact (fun h => h) | assumption | omega)⟩
      ·
        refine T_some ?_
        show BoxM o ∧ (Fr [(0, 23), (18, 9999), (19, 9999), (20, 9999)] o o) ∧ (inR (-4)) ∧ (HT o → HT o)
        exact ⟨hB_o, fr_o, (by omega), (by first | exact (fun h => h) | assumption | omega)⟩
