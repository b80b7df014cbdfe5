set_option maxRecDepth 20000 in
set_option maxHeartbeats 4000000 in
theorem tl_X12_stop_169 (x1 : Int) (x2 : Int) (x3 : Int) (i_o : OO) (i_x4 : Int) (hB_i_o : BoxM i_o) (k0 : 0 ≤ x1 ∧ x1 ≤ 63) (k1 : 0 ≤ x2 ∧ x2 ≤ 63) (k2 : 0 ≤ x3 ∧ x3 ≤ 9999) (k3 : CUX i_o x1 x2 x3) (v0 : 0 ≤ i_x4 ∧ i_x4 ≤ 64) (v1 : LG i_o x3) (v2 : BD i_o (128 * i_x4)) (v3 : PHX i_o i_o x1 x2 x3 i_x4) : T (loopW (fun s => l_X12_stop_169 x1 x2 x3 s.1 s.2) (i_o, i_x4)) (fun r => BoxM r.1 ∧ (Fr [(59, 9999), (60, 9999), (61, 9999), (62, 9999)] i_o r.1) ∧ (0 ≤ r.2 ∧ r.2 ≤ 64)) := by
  have fr_i_o : Fr [(59, 9999), (60, 9999), (61, 9999), (62, 9999)] i_o i_o := Fr.rf
  refine T_loop (fun s => BoxM s.1 ∧ (Fr [(59, 9999), (60, 9999), (61, 9999), (62, 9999)] i_o s.1) ∧ (0 ≤ s.2 ∧ s.2 ≤ 64) ∧ (LG s.1 x3) ∧ (BD s.1 (128 * s.2)) ∧ (PHX i_o s.1 x1 x2 x3 s.2)) (fun s => (65 - s.2).toNat) (by exact ⟨hB_i_o, fr_i_o, v0, v1, v2, v3⟩) (fun s hs => ?_)
  obtain ⟨o, x4⟩ := s
  replace hs : BoxM o ∧ (Fr [(59, 9999), (60, 9999), (61, 9999), (62, 9999)] i_o o) ∧ (0 ≤ x4 ∧ x4 ≤ 64) ∧ (LG o x3) ∧ (BD o (128 * x4)) ∧ (PHX i_o o x1 x2 x3 x4) := hs
  obtain ⟨hB_o, fr_o, w0, w1, w2, w3⟩ := hs
  have g0_17_i := bM_0_17 hB_i_o
  have g0_17_o : o.1 0 17 = i_o.1 0 17 := fr_o.1 0 17 rfl
  have cux : CUX i_o x1 x2 x3 := by assumption
  have e19 : o.1 11 = i_o.1 11 ∧ o.1 12 = i_o.1 12 ∧ o.1 58 = i_o.1 58 := ⟨funext (fun j => fr_o.1 11 j rfl), funext (fun j => fr_o.1 12 j rfl), funext (fun j => fr_o.1 58 j rfl)⟩
  show T (l_X12_stop_169 x1 x2 x3 o x4) _
  unfold l_X12_stop_169
  refine T_qB2 (t_X12_finds o x1 x2 x3 hB_o (by omega) (by omega) (by omega)) (fun r9 o11 hc_r9 hp1 => ?_)
  replace hp1 : BoxM o11 ∧ (Fr [(61, 9999), (62, 9999)] o o11) ∧ (FND o11 x3 (2 * x1 + 1)) ∧ ((r9 = 1 ∧ 0 ≤ o11.1 61 (2 * x2).toNat) ∨ r9 = 0) := hp1
  obtain ⟨hB_o11, fc_o11, hp1⟩ := hp1
  have fr_o11 : Fr [(59, 9999), (60, 9999), (61, 9999), (62, 9999)] i_o o11 := Fr.tr fr_o fc_o11 rfl
  have g0_17_o11 : o11.1 0 17 = o.1 0 17 := fc_o11.1 0 17 rfl
  have fd11 : FND o11 x3 (2 * x1 + 1) := hp1.1
  have fd12 := hp1.2
  have e29 : o11.1 11 = o.1 11 ∧ o11.1 12 = o.1 12 ∧ o11.1 58 = o.1 58 ∧ o11.1 59 = o.1 59 ∧ o11.1 60 = o.1 60 := ⟨funext (fun j => fc_o11.1 11 j rfl), funext (fun j => fc_o11.1 12 j rfl), funext (fun j => fc_o11.1 58 j rfl), funext (fun j => fc_o11.1 59 j rfl), funext (fun j => fc_o11.1 60 j rfl)⟩
  have bd11 : BD o11 1000000 := (w2.cg e29.2.2.2.1 e29.2.2.2.2).up (by omega)
  refine T_qEq ⟨by omega, by omega⟩ ⟨by decide, by decide⟩ (fun h2 => ?_) (fun h2 => ?_)
  ·
    refine T_some ?_
    show BoxM o11 ∧ (Fr [(59, 9999), (60, 9999), (61, 9999), (62, 9999)] i_o o11) ∧ (0 ≤ x4 ∧ x4 ≤ 64)
    exact ⟨hB_o11, fr_o11, (by omega)⟩
  ·
    refine T_qB (t_X12_goAlong o11 x1 x2 hB_o11 (by omega) (by omega) (⟨_, fd11⟩) (by first | assumption | exact ZR_BD zr8) (by omega)) (fun o14 hc_o14 hp3 => ?_)
    replace hp3 : BoxM o14 ∧ (Fr [(59, 9999), (60, 9999)] o11 o14) ∧ (GEND o11 o14 (2 * x1 + 1) (2 * x2)) := hp3
    obtain ⟨hB_o14, fc_o14, hp3⟩ := hp3
    have fr_o14 : Fr [(59, 9999), (60, 9999), (61, 9999), (62, 9999)] i_o o14 := Fr.tr fr_o11 fc_o14 rfl
    have g0_17_o14 : o14.1 0 17 = o11.1 0 17 := fc_o14.1 0 17 rfl
    obtain ⟨sa14, sb14, sc14, sd14⟩ := ST_next e19 e29 ⟨funext (fun j => fc_o14.1 11 j rfl), funext (fun j => fc_o14.1 12 j rfl), funext (fun j => fc_o14.1 58 j rfl)⟩ cux w1 w2 w3 fd11 hp3
    refine T_some ?_
    show (BoxM o14 ∧ (Fr [(59, 9999), (60, 9999), (61, 9999), (62, 9999)] i_o o14) ∧ (0 ≤ (x4 + 1) ∧ (x4 + 1) ≤ 64) ∧ (LG o14 x3) ∧ (BD o14 (128 * (x4 + 1))) ∧ (PHX i_o o14 x1 x2 x3 (x4 + 1))) ∧ (65 - (x4 + 1)).toNat < (65 - x4).toNat
    exact ⟨⟨hB_o14, fr_o14, (by omega), (by first | assumption | exact ZR_LG zr8), (by first | assumption | exact ZR_BD zr8), (by first | assumption | exact (fun R _ => ZR_PHI zr8 _))⟩, by omega⟩
set_option maxRecDepth 20000 in
set_option maxHeartbeats 4000000 in
theorem tl_X12_stop_104 (x1 : Int) (x2 : Int) (x3 : Int) (x4 : Int) (i_o : OO) (i_x5 : Int) (hB_i_o : BoxM i_o) (k0 : 0 ≤ x4 ∧ x4 ≤ 63) (v0 : 0 ≤ i_x5 ∧ i_x5 ≤ 4) (v1 : ZR i_o x4) (v2 : ZW i_o x4 i_x5) : T (loopW (fun s => l_X12_stop_104 x1 x2 x3 x4 s.1 s.2) (i_o, i_x5)) (fun r => BoxM r ∧ (Fr [(60, 9999)] i_o r) ∧ (ZR r x4) ∧ (ZW r x4 4)) := by
  have fr_i_o : Fr [(60, 9999)] i_o i_o := Fr.rf
  refine T_loop (fun s => BoxM s.1 ∧ (Fr [(60, 9999)] i_o s.1) ∧ (0 ≤ s.2 ∧ s.2 ≤ 4) ∧ (ZR s.1 x4) ∧ (ZW s.1 x4 s.2)) (fun s => (4 - s.2).toNat) (by exact ⟨hB_i_o, fr_i_o, v0, v1, v2⟩) (fun s hs => ?_)
  obtain ⟨o, x5⟩ := s
  replace hs : BoxM o ∧ (Fr [(60, 9999)] i_o o) ∧ (0 ≤ x5 ∧ x5 ≤ 4) ∧ (ZR o x4) ∧ (ZW o x4 x5) := hs
  obtain ⟨hB_o, fr_o, w0, w1, w2⟩ := hs
  have g0_17_i := bM_0_17 hB_i_o
  have g0_17_o : o.1 0 17 = i_o.1 0 17 := fr_o.1 0 17 rfl
  show T (l_X12_stop_104 x1 x2 x3 x4 o x5) _
  unfold l_X12_stop_104
  refine T_qLt ⟨by omega, by omega⟩ ⟨by decide, by decide⟩ (fun h4 => ?_) (fun h4 => ?_)
  ·
    refine T_qIn ⟨by omega, by omega⟩ ?_
    refine T_qNm (fun o23 e_o23 => ?_)
    have hB_o23 : BoxM o23 := by rw [e_o23]; exact Box.s1 hB_o (show -2147483648 ≤ 0 ∧ 0 ≤ 2147483647 from ⟨by omega, by omega⟩)
    have fr_o23 : Fr [(60, 9999)] i_o o23 := by rw [e_o23]; exact Fr.s1 fr_o rfl
    have g0_17_o23 : o23.1 0 17 = o.1 0 17 := by rw [e_o23]; rfl
    have zr23 : ZR o23 x4 := by rw [e_o23]; exact ZR_60 w1 (by omega) (by omega)
    have zw23 : ZW o23 x4 (x5 + 1) := by rw [e_o23]; exact ZW_s w2 (by omega) (by omega)
    refine T_some ?_
    show (BoxM o23 ∧ (Fr [(60, 9999)] i_o o23) ∧ (0 ≤ (x5 + 1) ∧ (x5 + 1) ≤ 4) ∧ (ZR o23 x4) ∧ (ZW o23 x4 (x5 + 1))) ∧ (4 - (x5 + 1)).toNat < (4 - x5).toNat
    exact ⟨⟨hB_o23, fr_o23, (by omega), (by first | assumption | exact ZR_0 | (have q9 := w1; rwa [show x4 = 64 by omega] at q9)), (by first | assumption | exact ZW_0 | (have q9 := w2; rwa [show x5 = 4 by omega] at q9))⟩, by omega⟩
  ·
    refine T_some ?_
    show BoxM o ∧ (Fr [(60, 9999)] i_o o) ∧ (ZR o x4) ∧ (ZW o x4 4)
    exact ⟨hB_o, fr_o, (by first | assumption | exact ZR_0 | (have q9 := w1; rwa [show x4 = 64 by omega] at q9)), (by first | assumption | exact ZW_0 | (have q9 := w2; rwa [show x5 = 4 by omega] at q9))⟩
set_option maxRecDepth 20000 in
set_option maxHeartbeats 4000000 in
theorem tl_X12_stop_199 (x4 : Int) (i_o : OO) (i_x5 : Int) (hB_i_o : BoxM i_o) (k0 : 0 ≤ x4 ∧ x4 ≤ 64) (v0 : 0 ≤ i_x5 ∧ i_x5 ≤ 64) : T (loopW (fun s => l_X12_stop_199 x4 s.1 s.2) (i_o, i_x5)) (fun r => BoxM r ∧ (Fr [(0, 3)] i_o r)) := by
  have fr_i_o : Fr [(0, 3)] i_o i_o := Fr.rf
  refine T_loop (fun s => BoxM s.1 ∧ (Fr [(0, 3)] i_o s.1) ∧ (0 ≤ s.2 ∧ s.2 ≤ 64)) (fun s => (64 - s.2).toNat) (by exact ⟨hB_i_o, fr_i_o, v0⟩) (fun s hs => ?_)
  obtain ⟨o, x5⟩ := s
  replace hs : BoxM o ∧ (Fr [(0, 3)] i_o o) ∧ (0 ≤ x5 ∧ x5 ≤ 64) := hs
  obtain ⟨hB_o, fr_o, w0⟩ := hs
  have g0_17_i := bM_0_17 hB_i_o
  have g0_17_o : o.1 0 17 = i_o.1 0 17 := fr_o.1 0 17 rfl
  show T (l_X12_stop_199 x4 o x5) _
  unfold l_X12_stop_199
  refine T_qLt ⟨by omega, by omega⟩ ⟨by decide, by decide⟩ (fun h5 => ?_) (fun h5 => ?_)
  ·
    refine T_qIn ⟨by omega, by omega⟩ ?_
    refine T_qNm (fun n3 e_n3 => ?_)
    have b_n3 : 0 ≤ n3 ∧ n3 ≤ 1 := by rw [e_n3]; exact bM_58 hB_o _
    refine T_qEq ⟨by omega, by omega⟩ ⟨by decide, by decide⟩ (fun h6 => ?_) (fun h6 => ?_)
    ·
      unfold b_X12_stop_246
      unfold b_X12_stop_247
      refine T_qEq ⟨by decide, by decide⟩ ⟨by decide, by decide⟩ (fun h7 => ?_) (fun h7 => ?_)
      ·
        unfold b_X12_stop_267
        refine T_qNm (fun o1 e_o1 => ?_)
        have hB_o1 : BoxM o1 := by rw [e_o1]; exact Box.s2 hB_o
        have fr_o1 : Fr [(0, 3)] i_o o1 := by rw [e_o1]; exact Fr.s2 fr_o rfl
        have g0_17_o1 : o1.1 0 17 = o.1 0 17 := by rw [e_o1]; rfl
        refine T_some ?_
        show (BoxM o1 ∧ (Fr [(0, 3)] i_o o1) ∧ (0 ≤ (x5 + 1) ∧ (x5 + 1) ≤ 64)) ∧ (64 - (x5 + 1)).toNat < (64 - x5).toNat
        exact ⟨⟨hB_o1, fr_o1, (by omega)⟩, by omega⟩
      ·
        unfold b_X12_stop_267
        refine T_qNm (fun o1 e_o1 => ?_)
        have hB_o1 : BoxM o1 := by rw [e_o1]; exact Box.s2 hB_o
        have fr_o1 : Fr [(0, 3)] i_o o1 := by rw [e_o1]; exact Fr.s2 fr_o rfl
        have g0_17_o1 : o1.1 0 17 = o.1 0 17 := by rw [e_o1]; rfl
        refine T_some ?_
        show (BoxM o1 ∧ (Fr [(0, 3)] i_o o1) ∧ (0 ≤ (x5 + 1) ∧ (x5 + 1) ≤ 64)) ∧ (64 - (x5 + 1)).toNat < (64 - x5).toNat
        exact ⟨⟨hB_o1, fr_o1, (by omega)⟩, by omega⟩
    ·
      refine T_qIn ⟨by omega, by omega⟩ ?_
      refine T_qNm (fun n5 e_n5 => ?_)
      have b_n5 : -9 ≤ n5 ∧ n5 ≤ 127 := by rw [e_n5]; exact bM_61 hB_o _
      refine T_qLt ⟨by omega, by omega⟩ ⟨by decide, by decide⟩ (fun h8 => ?_) (fun h8 => ?_)
      ·
        unfold b_X12_stop_246
        unfold b_X12_stop_247
        refine T_qEq ⟨by decide, by decide⟩ ⟨by decide, by decide⟩ (fun h9 => ?_) (fun h9 => ?_)
        ·
          unfold b_X12_stop_267
          refine T_qNm (fun o1 e_o1 => ?_)
          have hB_o1 : BoxM o1 := by rw [e_o1]; exact Box.s2 hB_o
          have fr_o1 : Fr [(0, 3)] i_o o1 := by rw [e_o1]; exact Fr.s2 fr_o rfl
          have g0_17_o1 : o1.1 0 17 = o.1 0 17 := by rw [e_o1]; rfl
          refine T_some ?_
          show (BoxM o1 ∧ (Fr [(0, 3)] i_o o1) ∧ (0 ≤ (x5 + 1) ∧ (x5 + 1) ≤ 64)) ∧ (64 - (x5 + 1)).toNat < (64 - x5).toNat
          exact ⟨⟨hB_o1, fr_o1, (by omega)⟩, by omega⟩
        ·
          unfold b_X12_stop_267
          refine T_qNm (fun o1 e_o1 => ?_)
          have hB_o1 : BoxM o1 := by rw [e_o1]; exact Box.s2 hB_o
          have fr_o1 : Fr [(0, 3)] i_o o1 := by rw [e_o1]; exact Fr.s2 fr_o rfl
          have g0_17_o1 : o1.1 0 17 = o.1 0 17 := by rw [e_o1]; rfl
          refine T_some ?_
          show (BoxM o1 ∧ (Fr [(0, 3)] i_o o1) ∧ (0 ≤ (x5 + 1) ∧ (x5 + 1) ≤ 64)) ∧ (64 - (x5 + 1)).toNat < (64 - x5).toNat
          exact ⟨⟨hB_o1, fr_o1, (by omega)⟩, by omega⟩
      ·
        refine T_qIn ⟨by omega, by omega⟩ ?_
        refine T_qNm (fun n7 e_n7 => ?_)
        have b_n7 : -9 ≤ n7 ∧ n7 ≤ 127 := by rw [e_n7]; exact bM_61 hB_o _
        refine T_qLt ⟨by omega, by omega⟩ ⟨by decide, by decide⟩ (fun h10 => ?_) (fun h10 => ?_)
        ·
          unfold b_X12_stop_247
          refine T_qEq ⟨by decide, by decide⟩ ⟨by decide, by decide⟩ (fun h11 => ?_) (fun h11 => ?_)
          ·
            unfold b_X12_stop_267
            refine T_qNm (fun o1 e_o1 => ?_)
            have hB_o1 : BoxM o1 := by rw [e_o1]; exact Box.s2 hB_o
            have fr_o1 : Fr [(0, 3)] i_o o1 := by rw [e_o1]; exact Fr.s2 fr_o rfl
            have g0_17_o1 : o1.1 0 17 = o.1 0 17 := by rw [e_o1]; rfl
            refine T_some ?_
            show (BoxM o1 ∧ (Fr [(0, 3)] i_o o1) ∧ (0 ≤ (x5 + 1) ∧ (x5 + 1) ≤ 64)) ∧ (64 - (x5 + 1)).toNat < (64 - x5).toNat
            exact ⟨⟨hB_o1, fr_o1, (by omega)⟩, by omega⟩
          ·
            unfold b_X12_stop_267
            refine T_qNm (fun o1 e_o1 => ?_)
            have hB_o1 : BoxM o1 := by rw [e_o1]; exact Box.s2 hB_o
            have fr_o1 : Fr [(0, 3)] i_o o1 := by rw [e_o1]; exact Fr.s2 fr_o rfl
            have g0_17_o1 : o1.1 0 17 = o.1 0 17 := by rw [e_o1]; rfl
            refine T_some ?_
            show (BoxM o1 ∧ (Fr [(0, 3)] i_o o1) ∧ (0 ≤ (x5 + 1) ∧ (x5 + 1) ≤ 64)) ∧ (64 - (x5 + 1)).toNat < (64 - x5).toNat
            exact ⟨⟨hB_o1, fr_o1, (by omega)⟩, by omega⟩
        ·
          unfold b_X12_stop_246
          unfold b_X12_stop_247
          refine T_qEq ⟨by decide, by decide⟩ ⟨by decide, by decide⟩ (fun h12 => ?_) (fun h12 => ?_)
          ·
            unfold b_X12_stop_267
            refine T_qNm (fun o1 e_o1 => ?_)
            have hB_o1 : BoxM o1 := by rw [e_o1]; exact Box.s2 hB_o
            have fr_o1 : Fr [(0, 3)] i_o o1 := by rw [e_o1]; exact Fr.s2 fr_o rfl
            have g0_17_o1 : o1.1 0 17 = o.1 0 17 := by rw [e_o1]; rfl
            refine T_some ?_
            show (BoxM o1 ∧ (Fr [(0, 3)] i_o o1) ∧ (0 ≤ (x5 + 1) ∧ (x5 + 1) ≤ 64)) ∧ (64 - (x5 + 1)).toNat < (64 - x5).toNat
            exact ⟨⟨hB_o1, fr_o1, (by omega)⟩, by omega⟩
          ·
            unfold b_X12_stop_267
            refine T_qNm (fun o1 e_o1 => ?_)
            have hB_o1 : BoxM o1 := by rw [e_o1]; exact Box.s2 hB_o
            have fr_o1 : Fr [(0, 3)] i_o o1 := by rw [e_o1]; exact Fr.s2 fr_o rfl
            have g0_17_o1 : o1.1 0 17 = o.1 0 17 := by rw [e_o1]; rfl
            refine T_some ?_
            show (BoxM o1 ∧ (Fr [(0, 3)] i_o o1) ∧ (0 ≤ (x5 + 1) ∧ (x5 + 1) ≤ 64)) ∧ (64 - (x5 + 1)).toNat < (64 - x5).toNat
            exact ⟨⟨hB_o1, fr_o1, (by omega)⟩, by omega⟩
  ·
    refine T_some ?_
    show BoxM o ∧ (Fr [(0, 3)] i_o o)
    exact ⟨hB_o, fr_o⟩
set_option maxRecDepth 20000 in
set_option maxHeartbeats 4000000 in
theorem tl_X12_stop_53 (x1 : Int) (x2 : Int) (x3 : Int) (i_o : OO) (i_x4 : Int) (hB_i_o : BoxM i_o) (k0 : 0 ≤ x1 ∧ x1 ≤ 63) (k1 : 0 ≤ x2 ∧ x2 ≤ 63) (k2 : 0 ≤ x3 ∧ x3 ≤ 9999) (v0 : 0 ≤ i_x4 ∧ i_x4 ≤ 64) (v1 : ZR i_o i_x4) (v2 : i_x4 ≤ x1 ∨ i_o.1 58 x1.toNat = 0) (v3 : i_x4 ≤ x2 ∨ i_o.1 58 x2.toNat = 0) : T (loopW (fun s => l_X12_stop_53 x1 x2 x3 s.1 s.2) (i_o, i_x4)) (fun r => BoxM r ∧ (Fr [(58, 9999), (59, 9999), (60, 9999)] i_o r) ∧ (ZR r 64) ∧ (r.1 58 x1.toNat = 0) ∧ (r.1 58 x2.toNat = 0)) := by
  have fr_i_o : Fr [(58, 9999), (59, 9999), (60, 9999)] i_o i_o := Fr.rf
  refine T_loop (fun s => BoxM s.1 ∧ (Fr [(58, 9999), (59, 9999), (60, 9999)] i_o s.1) ∧ (0 ≤ s.2 ∧ s.2 ≤ 64) ∧ (ZR s.1 s.2) ∧ (s.2 ≤ x1 ∨ s.1.1 58 x1.toNat = 0) ∧ (s.2 ≤ x2 ∨ s.1.1 58 x2.toNat = 0)) (fun s => (64 - s.2).toNat) (by exact ⟨hB_i_o, fr_i_o, v0, v1, v2, v3⟩) (fun s hs => ?_)
  obtain ⟨o, x4⟩ := s
  replace hs : BoxM o ∧ (Fr [(58, 9999), (59, 9999), (60, 9999)] i_o o) ∧ (0 ≤ x4 ∧ x4 ≤ 64) ∧ (ZR o x4) ∧ (x4 ≤ x1 ∨ o.1 58 x1.toNat = 0) ∧ (x4 ≤ x2 ∨ o.1 58 x2.toNat = 0) := hs
  obtain ⟨hB_o, fr_o, w0, w1, w2, w3⟩ := hs
  have g0_17_i := bM_0_17 hB_i_o
  have g0_17_o : o.1 0 17 = i_o.1 0 17 := fr_o.1 0 17 rfl
  show T (l_X12_stop_53 x1 x2 x3 o x4) _
  unfold l_X12_stop_53
  refine T_qLt ⟨by omega, by omega⟩ ⟨by decide, by decide⟩ (fun h13 => ?_) (fun h13 => ?_)
  ·
    refine T_qEq ⟨by omega, by omega⟩ ⟨by omega, by omega⟩ (fun h14 => ?_) (fun h14 => ?_)
    ·
      unfold b_X12_stop_91
      unfold b_X12_stop_92
      refine T_qIn ⟨by omega, by omega⟩ ?_
      refine T_qZ (Or.inl rfl) ?_
      refine T_qNm (fun o26 e_o26 => ?_)
      have hB_o26 : BoxM o26 := by rw [e_o26]; exact Box.s1 hB_o (show 0 ≤ 0 ∧ 0 ≤ 1 from ⟨by omega, by omega⟩)
      have fr_o26 : Fr [(58, 9999), (59, 9999), (60, 9999)] i_o o26 := by rw [e_o26]; exact Fr.s1 fr_o rfl
      have g0_17_o26 : o26.1 0 17 = o.1 0 17 := by rw [e_o26]; rfl
      have a26 : x4 + 1 ≤ x1 ∨ o26.1 58 x1.toNat = 0 := by rw [e_o26]; exact ST58 w2 (by omega) (by omega) (by omega)
      have b26 : x4 + 1 ≤ x2 ∨ o26.1 58 x2.toNat = 0 := by rw [e_o26]; exact ST58 w3 (by omega) (by omega) (by omega)
      refine T_qIn ⟨by omega, by omega⟩ ?_
      refine T_qNm (fun o28 e_o28 => ?_)
      have hB_o28 : BoxM o28 := by rw [e_o28]; exact Box.s1 hB_o26 (show -2147483648 ≤ 0 ∧ 0 ≤ 2147483647 from ⟨by omega, by omega⟩)
      have fr_o28 : Fr [(58, 9999), (59, 9999), (60, 9999)] i_o o28 := by rw [e_o28]; exact Fr.s1 fr_o26 rfl
      have g0_17_o28 : o28.1 0 17 = o26.1 0 17 := by rw [e_o28]; rfl
      have zr28 : ZR o28 x4 := by rw [e_o28, e_o26]; exact ZR_59 w1 _ (by omega)
      have z28 : o28.1 59 x4.toNat = 0 := by rw [e_o28]; exact st1_eq
      have a28 : x4 + 1 ≤ x1 ∨ o28.1 58 x1.toNat = 0 := by rw [e_o28]; exact a26
      have b28 : x4 + 1 ≤ x2 ∨ o28.1 58 x2.toNat = 0 := by rw [e_o28]; exact b26
      unfold e_X12_stop_104
      refine T_qB (tl_X12_stop_104 x1 x2 x3 x4 o28 0 hB_o28 (by omega) (by omega) (by first | assumption | exact ZR_0 | (have q9 := w1; rwa [show x4 = 64 by omega] at q9)) (by first | assumption | exact ZW_0 | (have q9 := w2; rwa [show x5 = 4 by omega] at q9))) (fun r15 hc_r15 hp16 => ?_)
      obtain ⟨o_17, q_o_17⟩ : ∃ q, q = r15 := ⟨_, rfl⟩
      subst q_o_17
      replace hp16 : BoxM o_17 ∧ (Fr [(60, 9999)] o28 o_17) ∧ (ZR o_17 x4) ∧ (ZW o_17 x4 4) := hp16
      have hps_hp16 := hp16
      obtain ⟨hp16_0, hp16_1, hp16_2, hp16_3⟩ := hps_hp16
      obtain ⟨hB_o_17, fc_o_17, hp16⟩ := hp16
      replace hp16 := hid hp16
      have fr_o_17 : Fr [(58, 9999), (59, 9999), (60, 9999)] i_o o_17 := Fr.tr fr_o28 fc_o_17 rfl
      have g0_17_o_17 : o_17.1 0 17 = o28.1 0 17 := fc_o_17.1 0 17 rfl
      show T (b_X12_stop_129 o_17 x1 x2 x3 x4) _
      have zr9 : ZR o_17 (x4 + 1) := ZR_s (by assumption) (by rw [fc_o_17.1 59 _ rfl]; exact z28) (by assumption)
      have a9 : x4 + 1 ≤ x1 ∨ o_17.1 58 x1.toNat = 0 := by rw [fc_o_17.1 58 _ rfl]; exact a28
      have b9 : x4 + 1 ≤ x2 ∨ o_17.1 58 x2.toNat = 0 := by rw [fc_o_17.1 58 _ rfl]; exact b28
      unfold b_X12_stop_129
      refine T_some ?_
      show (BoxM o_17 ∧ (Fr [(58, 9999), (59, 9999), (60, 9999)] i_o o_17) ∧ (0 ≤ (x4 + 1) ∧ (x4 + 1) ≤ 64) ∧ (ZR o_17 (x4 + 1)) ∧ ((x4 + 1) ≤ x1 ∨ o_17.1 58 x1.toNat = 0) ∧ ((x4 + 1) ≤ x2 ∨ o_17.1 58 x2.toNat = 0)) ∧ (64 - (x4 + 1)).toNat < (64 - x4).toNat
      exact ⟨⟨hB_o_17, fr_o_17, (by omega), (by first | assumption | exact ZR_0 | (have q9 := w1; rwa [show x4 = 64 by omega] at q9)), (by omega), (by omega)⟩, by omega⟩
    ·
      refine T_qEq ⟨by omega, by omega⟩ ⟨by omega, by omega⟩ (fun h18 => ?_) (fun h18 => ?_)
      ·
        unfold b_X12_stop_91
        unfold b_X12_stop_92
        refine T_qIn ⟨by omega, by omega⟩ ?_
        refine T_qZ (Or.inl rfl) ?_
        refine T_qNm (fun o26 e_o26 => ?_)
        have hB_o26 : BoxM o26 := by rw [e_o26]; exact Box.s1 hB_o (show 0 ≤ 0 ∧ 0 ≤ 1 from ⟨by omega, by omega⟩)
        have fr_o26 : Fr [(58, 9999), (59, 9999), (60, 9999)] i_o o26 := by rw [e_o26]; exact Fr.s1 fr_o rfl
        have g0_17_o26 : o26.1 0 17 = o.1 0 17 := by rw [e_o26]; rfl
        have a26 : x4 + 1 ≤ x1 ∨ o26.1 58 x1.toNat = 0 := by rw [e_o26]; exact ST58 w2 (by omega) (by omega) (by omega)
        have b26 : x4 + 1 ≤ x2 ∨ o26.1 58 x2.toNat = 0 := by rw [e_o26]; exact ST58 w3 (by omega) (by omega) (by omega)
        refine T_qIn ⟨by omega, by omega⟩ ?_
        refine T_qNm (fun o28 e_o28 => ?_)
        have hB_o28 : BoxM o28 := by rw [e_o28]; exact Box.s1 hB_o26 (show -2147483648 ≤ 0 ∧ 0 ≤ 2147483647 from ⟨by omega, by omega⟩)
        have fr_o28 : Fr [(58, 9999), (59, 9999), (60, 9999)] i_o o28 := by rw [e_o28]; exact Fr.s1 fr_o26 rfl
        have g0_17_o28 : o28.1 0 17 = o26.1 0 17 := by rw [e_o28]; rfl
        have zr28 : ZR o28 x4 := by rw [e_o28, e_o26]; exact ZR_59 w1 _ (by omega)
        have z28 : o28.1 59 x4.toNat = 0 := by rw [e_o28]; exact st1_eq
        have a28 : x4 + 1 ≤ x1 ∨ o28.1 58 x1.toNat = 0 := by rw [e_o28]; exact a26
        have b28 : x4 + 1 ≤ x2 ∨ o28.1 58 x2.toNat = 0 := by rw [e_o28]; exact b26
        unfold e_X12_stop_104
        refine T_qB (tl_X12_stop_104 x1 x2 x3 x4 o28 0 hB_o28 (by omega) (by omega) (by first | assumption | exact ZR_0 | (have q9 := w1; rwa [show x4 = 64 by omega] at q9)) (by first | assumption | exact ZW_0 | (have q9 := w2; rwa [show x5 = 4 by omega] at q9))) (fun r19 hc_r19 hp20 => ?_)
        obtain ⟨o_21, q_o_21⟩ : ∃ q, q = r19 := ⟨_, rfl⟩
        subst q_o_21
        replace hp20 : BoxM o_21 ∧ (Fr [(60, 9999)] o28 o_21) ∧ (ZR o_21 x4) ∧ (ZW o_21 x4 4) := hp20
        have hps_hp20 := hp20
        obtain ⟨hp20_0, hp20_1, hp20_2, hp20_3⟩ := hps_hp20
        obtain ⟨hB_o_21, fc_o_21, hp20⟩ := hp20
        replace hp20 := hid hp20
        have fr_o_21 : Fr [(58, 9999), (59, 9999), (60, 9999)] i_o o_21 := Fr.tr fr_o28 fc_o_21 rfl
        have g0_17_o_21 : o_21.1 0 17 = o28.1 0 17 := fc_o_21.1 0 17 rfl
        show T (b_X12_stop_129 o_21 x1 x2 x3 x4) _
        have zr9 : ZR o_21 (x4 + 1) := ZR_s (by assumption) (by rw [fc_o_21.1 59 _ rfl]; exact z28) (by assumption)
        have a9 : x4 + 1 ≤ x1 ∨ o_21.1 58 x1.toNat = 0 := by rw [fc_o_21.1 58 _ rfl]; exact a28
        have b9 : x4 + 1 ≤ x2 ∨ o_21.1 58 x2.toNat = 0 := by rw [fc_o_21.1 58 _ rfl]; exact b28
        unfold b_X12_stop_129
        refine T_some ?_
        show (BoxM o_21 ∧ (Fr [(58, 9999), (59, 9999), (60, 9999)] i_o o_21) ∧ (0 ≤ (x4 + 1) ∧ (x4 + 1) ≤ 64) ∧ (ZR o_21 (x4 + 1)) ∧ ((x4 + 1) ≤ x1 ∨ o_21.1 58 x1.toNat = 0) ∧ ((x4 + 1) ≤ x2 ∨ o_21.1 58 x2.toNat = 0)) ∧ (64 - (x4 + 1)).toNat < (64 - x4).toNat
        exact ⟨⟨hB_o_21, fr_o_21, (by omega), (by first | assumption | exact ZR_0 | (have q9 := w1; rwa [show x4 = 64 by omega] at q9)), (by omega), (by omega)⟩, by omega⟩
      ·
        refine T_qB (t_X12_on o x4 hB_o (by omega)) (fun r29 hc_r29 hp22 => ?_)
        replace hp22 : ((r29 = -9 ∨ 0 ≤ r29) ∧ r29 < o.1 0 17) := hp22
        refine T_qLt ⟨by omega, by omega⟩ ⟨by decide, by decide⟩ (fun h23 => ?_) (fun h23 => ?_)
        ·
          unfold b_X12_stop_91
          unfold b_X12_stop_92
          refine T_qIn ⟨by omega, by omega⟩ ?_
          refine T_qZ (Or.inl rfl) ?_
          refine T_qNm (fun o26 e_o26 => ?_)
          have hB_o26 : BoxM o26 := by rw [e_o26]; exact Box.s1 hB_o (show 0 ≤ 0 ∧ 0 ≤ 1 from ⟨by omega, by omega⟩)
          have fr_o26 : Fr [(58, 9999), (59, 9999), (60, 9999)] i_o o26 := by rw [e_o26]; exact Fr.s1 fr_o rfl
          have g0_17_o26 : o26.1 0 17 = o.1 0 17 := by rw [e_o26]; rfl
          have a26 : x4 + 1 ≤ x1 ∨ o26.1 58 x1.toNat = 0 := by rw [e_o26]; exact ST58 w2 (by omega) (by omega) (by omega)
          have b26 : x4 + 1 ≤ x2 ∨ o26.1 58 x2.toNat = 0 := by rw [e_o26]; exact ST58 w3 (by omega) (by omega) (by omega)
          refine T_qIn ⟨by omega, by omega⟩ ?_
          refine T_qNm (fun o28 e_o28 => ?_)
          have hB_o28 : BoxM o28 := by rw [e_o28]; exact Box.s1 hB_o26 (show -2147483648 ≤ 0 ∧ 0 ≤ 2147483647 from ⟨by omega, by omega⟩)
          have fr_o28 : Fr [(58, 9999), (59, 9999), (60, 9999)] i_o o28 := by rw [e_o28]; exact Fr.s1 fr_o26 rfl
          have g0_17_o28 : o28.1 0 17 = o26.1 0 17 := by rw [e_o28]; rfl
          have zr28 : ZR o28 x4 := by rw [e_o28, e_o26]; exact ZR_59 w1 _ (by omega)
          have z28 : o28.1 59 x4.toNat = 0 := by rw [e_o28]; exact st1_eq
          have a28 : x4 + 1 ≤ x1 ∨ o28.1 58 x1.toNat = 0 := by rw [e_o28]; exact a26
          have b28 : x4 + 1 ≤ x2 ∨ o28.1 58 x2.toNat = 0 := by rw [e_o28]; exact b26
          unfold e_X12_stop_104
          refine T_qB (tl_X12_stop_104 x1 x2 x3 x4 o28 0 hB_o28 (by omega) (by omega) (by first | assumption | exact ZR_0 | (have q9 := w1; rwa [show x4 = 64 by omega] at q9)) (by first | assumption | exact ZW_0 | (have q9 := w2; rwa [show x5 = 4 by omega] at q9))) (fun r24 hc_r24 hp25 => ?_)
          obtain ⟨o_26, q_o_26⟩ : ∃ q, q = r24 := ⟨_, rfl⟩
          subst q_o_26
          replace hp25 : BoxM o_26 ∧ (Fr [(60, 9999)] o28 o_26) ∧ (ZR o_26 x4) ∧ (ZW o_26 x4 4) := hp25
          have hps_hp25 := hp25
          obtain ⟨hp25_0, hp25_1, hp25_2, hp25_3⟩ := hps_hp25
          obtain ⟨hB_o_26, fc_o_26, hp25⟩ := hp25
          replace hp25 := hid hp25
          have fr_o_26 : Fr [(58, 9999), (59, 9999), (60, 9999)] i_o o_26 := Fr.tr fr_o28 fc_o_26 rfl
          have g0_17_o_26 : o_26.1 0 17 = o28.1 0 17 := fc_o_26.1 0 17 rfl
          show T (b_X12_stop_129 o_26 x1 x2 x3 x4) _
          have zr9 : ZR o_26 (x4 + 1) := ZR_s (by assumption) (by rw [fc_o_26.1 59 _ rfl]; exact z28) (by assumption)
          have a9 : x4 + 1 ≤ x1 ∨ o_26.1 58 x1.toNat = 0 := by rw [fc_o_26.1 58 _ rfl]; exact a28
          have b9 : x4 + 1 ≤ x2 ∨ o_26.1 58 x2.toNat = 0 := by rw [fc_o_26.1 58 _ rfl]; exact b28
          unfold b_X12_stop_129
          refine T_some ?_
          show (BoxM o_26 ∧ (Fr [(58, 9999), (59, 9999), (60, 9999)] i_o o_26) ∧ (0 ≤ (x4 + 1) ∧ (x4 + 1) ≤ 64) ∧ (ZR o_26 (x4 + 1)) ∧ ((x4 + 1) ≤ x1 ∨ o_26.1 58 x1.toNat = 0) ∧ ((x4 + 1) ≤ x2 ∨ o_26.1 58 x2.toNat = 0)) ∧ (64 - (x4 + 1)).toNat < (64 - x4).toNat
          exact ⟨⟨hB_o_26, fr_o_26, (by omega), (by first | assumption | exact ZR_0 | (have q9 := w1; rwa [show x4 = 64 by omega] at q9)), (by omega), (by omega)⟩, by omega⟩
        ·
          unfold b_X12_stop_92
          refine T_qIn ⟨by omega, by omega⟩ ?_
          refine T_qZ (Or.inr rfl) ?_
          refine T_qNm (fun o26 e_o26 => ?_)
          have hB_o26 : BoxM o26 := by rw [e_o26]; exact Box.s1 hB_o (show 0 ≤ 1 ∧ 1 ≤ 1 from ⟨by omega, by omega⟩)
          have fr_o26 : Fr [(58, 9999), (59, 9999), (60, 9999)] i_o o26 := by rw [e_o26]; exact Fr.s1 fr_o rfl
          have g0_17_o26 : o26.1 0 17 = o.1 0 17 := by rw [e_o26]; rfl
          have a26 : x4 + 1 ≤ x1 ∨ o26.1 58 x1.toNat = 0 := by rw [e_o26]; exact ST58 w2 (by omega) (by omega) (by omega)
          have b26 : x4 + 1 ≤ x2 ∨ o26.1 58 x2.toNat = 0 := by rw [e_o26]; exact ST58 w3 (by omega) (by omega) (by omega)
          refine T_qIn ⟨by omega, by omega⟩ ?_
          refine T_qNm (fun o28 e_o28 => ?_)
          have hB_o28 : BoxM o28 := by rw [e_o28]; exact Box.s1 hB_o26 (show -2147483648 ≤ 0 ∧ 0 ≤ 2147483647 from ⟨by omega, by omega⟩)
          have fr_o28 : Fr [(58, 9999), (59, 9999), (60, 9999)] i_o o28 := by rw [e_o28]; exact Fr.s1 fr_o26 rfl
          have g0_17_o28 : o28.1 0 17 = o26.1 0 17 := by rw [e_o28]; rfl
          have zr28 : ZR o28 x4 := by rw [e_o28, e_o26]; exact ZR_59 w1 _ (by omega)
          have z28 : o28.1 59 x4.toNat = 0 := by rw [e_o28]; exact st1_eq
          have a28 : x4 + 1 ≤ x1 ∨ o28.1 58 x1.toNat = 0 := by rw [e_o28]; exact a26
          have b28 : x4 + 1 ≤ x2 ∨ o28.1 58 x2.toNat = 0 := by rw [e_o28]; exact b26
          unfold e_X12_stop_104
          refine T_qB (tl_X12_stop_104 x1 x2 x3 x4 o28 0 hB_o28 (by omega) (by omega) (by first | assumption | exact ZR_0 | (have q9 := w1; rwa [show x4 = 64 by omega] at q9)) (by first | assumption | exact ZW_0 | (have q9 := w2; rwa [show x5 = 4 by omega] at q9))) (fun r27 hc_r27 hp28 => ?_)
          obtain ⟨o_29, q_o_29⟩ : ∃ q, q = r27 := ⟨_, rfl⟩
          subst q_o_29
          replace hp28 : BoxM o_29 ∧ (Fr [(60, 9999)] o28 o_29) ∧ (ZR o_29 x4) ∧ (ZW o_29 x4 4) := hp28
          have hps_hp28 := hp28
          obtain ⟨hp28_0, hp28_1, hp28_2, hp28_3⟩ := hps_hp28
          obtain ⟨hB_o_29, fc_o_29, hp28⟩ := hp28
          replace hp28 := hid hp28
          have fr_o_29 : Fr [(58, 9999), (59, 9999), (60, 9999)] i_o o_29 := Fr.tr fr_o28 fc_o_29 rfl
          have g0_17_o_29 : o_29.1 0 17 = o28.1 0 17 := fc_o_29.1 0 17 rfl
          show T (b_X12_stop_129 o_29 x1 x2 x3 x4) _
          have zr9 : ZR o_29 (x4 + 1) := ZR_s (by assumption) (by rw [fc_o_29.1 59 _ rfl]; exact z28) (by assumption)
          have a9 : x4 + 1 ≤ x1 ∨ o_29.1 58 x1.toNat = 0 := by rw [fc_o_29.1 58 _ rfl]; exact a28
          have b9 : x4 + 1 ≤ x2 ∨ o_29.1 58 x2.toNat = 0 := by rw [fc_o_29.1 58 _ rfl]; exact b28
          unfold b_X12_stop_129
          refine T_some ?_
          show (BoxM o_29 ∧ (Fr [(58, 9999), (59, 9999), (60, 9999)] i_o o_29) ∧ (0 ≤ (x4 + 1) ∧ (x4 + 1) ≤ 64) ∧ (ZR o_29 (x4 + 1)) ∧ ((x4 + 1) ≤ x1 ∨ o_29.1 58 x1.toNat = 0) ∧ ((x4 + 1) ≤ x2 ∨ o_29.1 58 x2.toNat = 0)) ∧ (64 - (x4 + 1)).toNat < (64 - x4).toNat
          exact ⟨⟨hB_o_29, fr_o_29, (by omega), (by first | assumption | exact ZR_0 | (have q9 := w1; rwa [show x4 = 64 by omega] at q9)), (by omega), (by omega)⟩, by omega⟩
  ·
    refine T_some ?_
    show BoxM o ∧ (Fr [(58, 9999), (59, 9999), (60, 9999)] i_o o) ∧ (ZR o 64) ∧ (o.1 58 x1.toNat = 0) ∧ (o.1 58 x2.toNat = 0)
    exact ⟨hB_o, fr_o, (by first | assumption | exact ZR_0 | (have q9 := w1; rwa [show x4 = 64 by omega] at q9)), (by omega), (by omega)⟩
set_option maxRecDepth 20000 in
set_option maxHeartbeats 4000000 in
theorem t_X12_stop (o : OO) (x1 : Int) (x2 : Int) (hB_o : BoxM o) (k0 : inR x1) (k1 : inR x2) : T (s_X12_stop o x1 x2) (fun v => BoxM v.2 ∧ (Fr [(0, 0), (0, 3), (1, 9999), (58, 9999), (59, 9999), (60, 9999), (61, 9999), (62, 9999)] o v.2)) := by
  have fr_o : Fr [(0, 0), (0, 3), (1, 9999), (58, 9999), (59, 9999), (60, 9999), (61, 9999), (62, 9999)] o o := Fr.rf
  have g0_17_o := bM_0_17 hB_o
  unfold s_X12_stop
  refine T_qB (t_X12_isCell x1 (by omega)) (fun r31 hc_r31 hp30 => ?_)
  replace hp30 : ((r31 = 1 ∧ 0 ≤ x1 ∧ x1 ≤ 63) ∨ (r31 = 0 ∧ (x1 < 0 ∨ 63 < x1))) := hp30
  refine T_qEq ⟨by omega, by omega⟩ ⟨by decide, by decide⟩ (fun h31 => ?_) (fun h31 => ?_)
  ·
    unfold b_X12_stop_19
    refine T_some ?_
    show BoxM o ∧ (Fr [(0, 0), (0, 3), (1, 9999), (58, 9999), (59, 9999), (60, 9999), (61, 9999), (62, 9999)] o o)
    exact ⟨hB_o, fr_o⟩
  ·
    refine T_qB (t_X12_isCell x2 (by omega)) (fun r33 hc_r33 hp32 => ?_)
    replace hp32 : ((r33 = 1 ∧ 0 ≤ x2 ∧ x2 ≤ 63) ∨ (r33 = 0 ∧ (x2 < 0 ∨ 63 < x2))) := hp32
    refine T_qEq ⟨by omega, by omega⟩ ⟨by decide, by decide⟩ (fun h33 => ?_) (fun h33 => ?_)
    ·
      unfold b_X12_stop_19
      refine T_some ?_
      show BoxM o ∧ (Fr [(0, 0), (0, 3), (1, 9999), (58, 9999), (59, 9999), (60, 9999), (61, 9999), (62, 9999)] o o)
      exact ⟨hB_o, fr_o⟩
    ·
      refine T_qEq ⟨by omega, by omega⟩ ⟨by omega, by omega⟩ (fun h34 => ?_) (fun h34 => ?_)
      ·
        unfold b_X12_stop_19
        refine T_some ?_
        show BoxM o ∧ (Fr [(0, 0), (0, 3), (1, 9999), (58, 9999), (59, 9999), (60, 9999), (61, 9999), (62, 9999)] o o)
        exact ⟨hB_o, fr_o⟩
      ·
        refine T_qIn ⟨by omega, by omega⟩ ?_
        refine T_qNm (fun n36 e_n36 => ?_)
        have b_n36 : 0 ≤ n36 ∧ n36 ≤ 4 := by rw [e_n36]; exact bM_11 hB_o _
        refine T_qEq ⟨by omega, by omega⟩ ⟨by decide, by decide⟩ (fun h35 => ?_) (fun h35 => ?_)
        ·
          unfold b_X12_stop_41
          refine T_some ?_
          show BoxM o ∧ (Fr [(0, 0), (0, 3), (1, 9999), (58, 9999), (59, 9999), (60, 9999), (61, 9999), (62, 9999)] o o)
          exact ⟨hB_o, fr_o⟩
        ·
          refine T_qIn ⟨by omega, by omega⟩ ?_
          refine T_qNm (fun n38 e_n38 => ?_)
          have b_n38 : 0 ≤ n38 ∧ n38 ≤ 4 := by rw [e_n38]; exact bM_11 hB_o _
          refine T_qEq ⟨by omega, by omega⟩ ⟨by decide, by decide⟩ (fun h36 => ?_) (fun h36 => ?_)
          ·
            unfold b_X12_stop_41
            refine T_some ?_
            show BoxM o ∧ (Fr [(0, 0), (0, 3), (1, 9999), (58, 9999), (59, 9999), (60, 9999), (61, 9999), (62, 9999)] o o)
            exact ⟨hB_o, fr_o⟩
          ·
            refine T_qB (t_X12_nowInForce o 0 hB_o (by omega)) (fun r39 hc_r39 hp37 => ?_)
            replace hp37 : (0 ≤ r39 ∧ r39 ≤ 9999) := hp37
            unfold e_X12_stop_53
            refine T_qB (tl_X12_stop_53 x1 x2 r39 o 0 hB_o (by omega) (by omega) (by omega) (by omega) (by first | assumption | exact ZR_0 | (have q9 := w1; rwa [show x4 = 64 by omega] at q9)) (by omega) (by omega)) (fun r38 hc_r38 hp39 => ?_)
            obtain ⟨o_40, q_o_40⟩ : ∃ q, q = r38 := ⟨_, rfl⟩
            subst q_o_40
            replace hp39 : BoxM o_40 ∧ (Fr [(58, 9999), (59, 9999), (60, 9999)] o o_40) ∧ (ZR o_40 64) ∧ (o_40.1 58 x1.toNat = 0) ∧ (o_40.1 58 x2.toNat = 0) := hp39
            have hps_hp39 := hp39
            obtain ⟨hp39_0, hp39_1, hp39_2, hp39_3, hp39_4⟩ := hps_hp39
            obtain ⟨hB_o_40, fc_o_40, hp39⟩ := hp39
            replace hp39 := hid hp39
            have fr_o_40 : Fr [(0, 0), (0, 3), (1, 9999), (58, 9999), (59, 9999), (60, 9999), (61, 9999), (62, 9999)] o o_40 := Fr.tr fr_o fc_o_40 rfl
            have g0_17_o_40 : o_40.1 0 17 = o.1 0 17 := fc_o_40.1 0 17 rfl
            show T (b_X12_stop_135 o_40 x1 x2 r39) _
            have zr8 : ZR o_40 64 := by assumption
            unfold b_X12_stop_135
            refine T_qB (t_X12_comes o_40 x1 x2 r39 1 hB_o_40 (by omega) (by omega) (by omega) (by omega)) (fun r15 hc_r15 hp41 => ?_)
            replace hp41 : (0 ≤ r15 ∧ r15 ≤ 1) ∧ ((0 : Int) = r15 → CMS o_40 x1 x2 r39 1) := hp41
            have hps_hp41 := hp41
            obtain ⟨hp41_0, hp41_1⟩ := hps_hp41
            replace hp41 := hid hp41
            refine T_qEq ⟨by omega, by omega⟩ ⟨by decide, by decide⟩ (fun h42 => ?_) (fun h42 => ?_)
            ·
              refine T_qB2 (t_X12_meets o_40 1 hB_o_40 (by omega)) (fun r19 o21 hc_r19 hp43 => ?_)
              replace hp43 : BoxM o21 ∧ (Fr [(0, 0), (1, 9999)] o_40 o21) ∧ (r19 = -3) := hp43
              obtain ⟨hB_o21, fc_o21, hp43⟩ := hp43
              have fr_o21 : Fr [(0, 0), (0, 3), (1, 9999), (58, 9999), (59, 9999), (60, 9999), (61, 9999), (62, 9999)] o o21 := Fr.tr fr_o_40 fc_o21 rfl
              have g0_17_o21 : o21.1 0 17 = o_40.1 0 17 := fc_o21.1 0 17 rfl
              refine T_some ?_
              show BoxM o21 ∧ (Fr [(0, 0), (0, 3), (1, 9999), (58, 9999), (59, 9999), (60, 9999), (61, 9999), (62, 9999)] o o21)
              exact ⟨hB_o21, fr_o21⟩
            ·
              refine T_qB (t_X12_comes o_40 x1 x2 r39 0 hB_o_40 (by omega) (by omega) (by omega) (by omega)) (fun r17 hc_r17 hp44 => ?_)
              replace hp44 : (0 ≤ r17 ∧ r17 ≤ 1) ∧ ((0 : Int) = r17 → CMS o_40 x1 x2 r39 0) := hp44
              have hps_hp44 := hp44
              obtain ⟨hp44_0, hp44_1⟩ := hps_hp44
              replace hp44 := hid hp44
              have cm17 : (0 : Int) = r17 → CUX o_40 x1 x2 r39 := fun e => CUTR_of (by omega) (by assumption) (by assumption) (hp44_1 e)
              refine T_qEq ⟨by omega, by omega⟩ ⟨by decide, by decide⟩ (fun h45 => ?_) (fun h45 => ?_)
              ·
                unfold e_X12_stop_169
                refine T_qB (tl_X12_stop_169 x1 x2 r39 o_40 0 hB_o_40 (by omega) (by omega) (by omega) (cm17 (by omega)) (by omega) (by first | assumption | exact ZR_LG zr8) (by first | assumption | exact ZR_BD zr8) (by first | assumption | exact (fun R _ => ZR_PHI zr8 _))) (fun r46 hc_r46 hp47 => ?_)
                obtain ⟨o_48, x4_49⟩ := r46
                replace hp47 : BoxM o_48 ∧ (Fr [(59, 9999), (60, 9999), (61, 9999), (62, 9999)] o_40 o_48) ∧ (0 ≤ x4_49 ∧ x4_49 ≤ 64) := hp47
                have hps_hp47 := hp47
                obtain ⟨hp47_0, hp47_1, hp47_2⟩ := hps_hp47
                obtain ⟨hB_o_48, fc_o_48, hp47⟩ := hp47
                replace hp47 := hid hp47
                have fr_o_48 : Fr [(0, 0), (0, 3), (1, 9999), (58, 9999), (59, 9999), (60, 9999), (61, 9999), (62, 9999)] o o_48 := Fr.tr fr_o_40 fc_o_48 rfl
                have g0_17_o_48 : o_48.1 0 17 = o_40.1 0 17 := fc_o_48.1 0 17 rfl
                show T (b_X12_stop_191 o_48 x4_49) _
                unfold b_X12_stop_191
                refine T_qNm (fun o8 e_o8 => ?_)
                have hB_o8 : BoxM o8 := by rw [e_o8]; exact Box.s2 hB_o_48
                have fr_o8 : Fr [(0, 0), (0, 3), (1, 9999), (58, 9999), (59, 9999), (60, 9999), (61, 9999), (62, 9999)] o o8 := by rw [e_o8]; exact Fr.s2 fr_o_48 rfl
                have g0_17_o8 : o8.1 0 17 = o_48.1 0 17 := by rw [e_o8]; rfl
                unfold e_X12_stop_199
                refine T_qB (tl_X12_stop_199 x4_49 o8 0 hB_o8 (by omega) (by omega)) (fun r50 hc_r50 hp51 => ?_)
                obtain ⟨o_52, q_o_52⟩ : ∃ q, q = r50 := ⟨_, rfl⟩
                subst q_o_52
                replace hp51 : BoxM o_52 ∧ (Fr [(0, 3)] o8 o_52) := hp51
                have hps_hp51 := hp51
                obtain ⟨hp51_0, hp51_1⟩ := hps_hp51
                obtain ⟨hB_o_52, fc_o_52⟩ := hp51
                have fr_o_52 : Fr [(0, 0), (0, 3), (1, 9999), (58, 9999), (59, 9999), (60, 9999), (61, 9999), (62, 9999)] o o_52 := Fr.tr fr_o8 fc_o_52 rfl
                have g0_17_o_52 : o_52.1 0 17 = o8.1 0 17 := fc_o_52.1 0 17 rfl
                show T (b_X12_stop_277 o_52 x4_49) _
                unfold b_X12_stop_277
                refine T_some ?_
                show BoxM o_52 ∧ (Fr [(0, 0), (0, 3), (1, 9999), (58, 9999), (59, 9999), (60, 9999), (61, 9999), (62, 9999)] o o_52)
                exact ⟨hB_o_52, fr_o_52⟩
              ·
                refine T_some ?_
                show BoxM o_40 ∧ (Fr [(0, 0), (0, 3), (1, 9999), (58, 9999), (59, 9999), (60, 9999), (61, 9999), (62, 9999)] o o_40)
                exact ⟨hB_o_40, fr_o_40⟩
theorem tl_X12_firstValue_2 (o : OO) (x1 : Int) (k : Nat) (hk : (k : Int) < 100) (he : o.1 18 k = x1) (hB_o : BoxM o) (hx : 0 ≤ x1 ∧ x1 ≤ 31) : T (loopW (fun s => l_X12_firstValue_2 o x1 s) 0) (fun r => 0 ≤ r ∧ r ≤ 99) := by
  refine T_loop (fun s => 0 ≤ s ∧ s ≤ (k : Int)) (fun s => ((k : Int) - s).toNat) ⟨by omega, by omega⟩ (fun s hs => ?_)
  obtain ⟨h0, h1⟩ := hs
  show T (l_X12_firstValue_2 o x1 s) _
  unfold l_X12_firstValue_2
  refine T_qIn ⟨by omega, by omega⟩ ?_
  refine T_qNm (fun n4 e_n4 => ?_)
  have b_n4 := bM_18 hB_o s.toNat
  rw [← e_n4] at b_n4
  refine T_qEq ⟨by omega, by omega⟩ ⟨by omega, by omega⟩ (fun h => ?_) (fun h => ?_)
  · refine T_some ?_
    show 0 ≤ s ∧ s ≤ 99
    omega
  · refine T_some ?_
    have : s ≠ (k : Int) := fun e => h (by rw [e_n4, e, ← he]; rfl)
    show (0 ≤ s + 1 ∧ s + 1 ≤ (k : Int)) ∧ ((k : Int) - (s + 1)).toNat < ((k : Int) - s).toNat
    omega
theorem t_X12_firstValue (o : OO) (x1 : Int) (hB_o : BoxM o) (k0 : 0 ≤ x1) (k1 : x1 < o.1 0 17) (k2 : HT o) : T (s_X12_firstValue o x1) (fun v => (0 ≤ v ∧ v ≤ 100000)) := by
  obtain ⟨k, hk, he⟩ := k2 x1 k0 k1
  have g1 := bM_0_23 hB_o
  have g2 := bM_0_17 hB_o
  unfold s_X12_firstValue e_X12_firstValue_2
  refine T_qB (tl_X12_firstValue_2 o x1 k (by omega) he hB_o ⟨by omega, by omega⟩) (fun r hr hp => ?_)
  unfold b_X12_firstValue_18
  refine T_qIn ⟨by omega, by omega⟩ ?_
  refine T_qNm (fun n e => ?_)
  refine T_some ?_
  rw [e]
  exact bM_20 hB_o _
set_option maxRecDepth 20000 in
set_option maxHeartbeats 4000000 in
theorem tl_X12_take_146 (x1 : Int) (x4 : Int) (i_o : OO) (i_x5 : Int) (hB_i_o : BoxM i_o) (k0 : inR x1) (k1 : 0 ≤ x4 ∧ x4 ≤ 23) (v0 : 0 ≤ i_x5 ∧ i_x5 ≤ i_o.1 0 27) : T (loopW (fun s => l_X12_take_146 x1 x4 s.1 s.2) (i_o, i_x5)) (fun r => BoxM r ∧ (Fr [(21, 9999), (34, 9999)] i_o r)) := by
  have fr_i_o : Fr [(21, 9999), (34, 9999)] i_o i_o := Fr.rf
  refine T_loop (fun s => BoxM s.1 ∧ (Fr [(21, 9999), (34, 9999)] i_o s.1) ∧ (0 ≤ s.2 ∧ s.2 ≤ s.1.1 0 27)) (fun s => (s.1.1 0 27 - s.2).toNat) (by exact ⟨hB_i_o, fr_i_o, v0⟩) (fun s hs => ?_)
  obtain ⟨o, x5⟩ := s
  replace hs : BoxM o ∧ (Fr [(21, 9999), (34, 9999)] i_o o) ∧ (0 ≤ x5 ∧ x5 ≤ o.1 0 27) := hs
  obtain ⟨hB_o, fr_o, w0⟩ := hs
  have g0_27_i := bM_0_27 hB_i_o
  have g0_27_o : o.1 0 27 = i_o.1 0 27 := fr_o.1 0 27 rfl
  have g0_32_i := bM_0_32 hB_i_o
  have g0_32_o : o.1 0 32 = i_o.1 0 32 := fr_o.1 0 32 rfl
  have g0_17_i := bM_0_17 hB_i_o
  have g0_17_o : o.1 0 17 = i_o.1 0 17 := fr_o.1 0 17 rfl
  show T (l_X12_take_146 x1 x4 o x5) _
  unfold l_X12_take_146
  refine T_qLt ⟨by omega, by omega⟩ ⟨by omega, by omega⟩ (fun h1 => ?_) (fun h1 => ?_)
  ·
    refine T_qIn ⟨by omega, by omega⟩ ?_
    refine T_qNm (fun n10 e_n10 => ?_)
    have b_n10 : -9 ≤ n10 ∧ n10 ≤ 31 := by rw [e_n10]; exact bM_21 hB_o _
    refine T_qEq ⟨by omega, by omega⟩ ⟨by omega, by omega⟩ (fun h2 => ?_) (fun h2 => ?_)
    ·
      refine T_qIn ⟨by omega, by omega⟩ ?_
      refine T_qNm (fun m12 e_m12 => ?_)
      refine T_qIn ⟨by omega, by omega⟩ ?_
      refine T_qNm (fun o14 e_o14 => ?_)
      have hB_o14 : BoxM o14 := by rw [e_o14]; exact Box.s2 hB_o
      have fr_o14 : Fr [(21, 9999), (34, 9999)] i_o o14 := by rw [e_o14]; exact Fr.s2 fr_o rfl
      have g0_27_o14 : o14.1 0 27 = o.1 0 27 := by rw [e_o14]; rfl
      have g0_32_o14 : o14.1 0 32 = o.1 0 32 := by rw [e_o14]; rfl
      have g0_17_o14 : o14.1 0 17 = o.1 0 17 := by rw [e_o14]; rfl
      refine T_qIn ⟨by omega, by omega⟩ ?_
      refine T_qNm (fun o16 e_o16 => ?_)
      have hB_o16 : BoxM o16 := by rw [e_o16]; exact Box.s1 hB_o14 (show -9 ≤ (-9) ∧ (-9) ≤ 31 from ⟨by omega, by omega⟩)
      have fr_o16 : Fr [(21, 9999), (34, 9999)] i_o o16 := by rw [e_o16]; exact Fr.s1 fr_o14 rfl
      have g0_27_o16 : o16.1 0 27 = o14.1 0 27 := by rw [e_o16]; rfl
      have g0_32_o16 : o16.1 0 32 = o14.1 0 32 := by rw [e_o16]; rfl
      have g0_17_o16 : o16.1 0 17 = o14.1 0 17 := by rw [e_o16]; rfl
      unfold b_X12_take_189
      refine T_some ?_
      show (BoxM o16 ∧ (Fr [(21, 9999), (34, 9999)] i_o o16) ∧ (0 ≤ (x5 + 1) ∧ (x5 + 1) ≤ o16.1 0 27)) ∧ (o16.1 0 27 - (x5 + 1)).toNat < (o.1 0 27 - x5).toNat
      exact ⟨⟨hB_o16, fr_o16, (by omega)⟩, by omega⟩
    ·
      unfold b_X12_take_189
      refine T_some ?_
      show (BoxM o ∧ (Fr [(21, 9999), (34, 9999)] i_o o) ∧ (0 ≤ (x5 + 1) ∧ (x5 + 1) ≤ o.1 0 27)) ∧ (o.1 0 27 - (x5 + 1)).toNat < (o.1 0 27 - x5).toNat
      exact ⟨⟨hB_o, fr_o, (by omega)⟩, by omega⟩
  ·
    refine T_some ?_
    show BoxM o ∧ (Fr [(21, 9999), (34, 9999)] i_o o)
    exact ⟨hB_o, fr_o⟩
set_option maxRecDepth 20000 in
set_option maxHeartbeats 4000000 in
theorem t_X12_take (o : OO) (x1 : Int) (x2 : Int) (hB_o : BoxM o) (k0 : inR x1) (k1 : inR x2) (k2 : HT o) : T (s_X12_take o x1 x2) (fun v => BoxM v.2 ∧ (Fr [(0, 0), (0, 2), (0, 32), (1, 9999), (16, 9999), (21, 9999), (25, 9999), (26, 9999), (27, 9999), (29, 9999), (30, 9999), (32, 9999), (34, 9999)] o v.2)) := by
  have fr_o : Fr [(0, 0), (0, 2), (0, 32), (1, 9999), (16, 9999), (21, 9999), (25, 9999), (26, 9999), (27, 9999), (29, 9999), (30, 9999), (32, 9999), (34, 9999)] o o := Fr.rf
  have g0_27_o := bM_0_27 hB_o
  have g0_32_o := bM_0_32 hB_o
  have g0_17_o := bM_0_17 hB_o
  unfold s_X12_take
  refine T_qB (t_X12_isBuilding o x1 hB_o (by omega)) (fun r27 hc_r27 hp3 => ?_)
  replace hp3 : ((r27 = 1 ∧ 0 ≤ x1 ∧ x1 < o.1 0 17) ∨ (r27 = 0 ∧ (x1 < 0 ∨ o.1 0 17 ≤ x1))) := hp3
  refine T_qEq ⟨by omega, by omega⟩ ⟨by decide, by decide⟩ (fun h4 => ?_) (fun h4 => ?_)
  ·
    unfold b_X12_take_16
    refine T_some ?_
    show BoxM o ∧ (Fr [(0, 0), (0, 2), (0, 32), (1, 9999), (16, 9999), (21, 9999), (25, 9999), (26, 9999), (27, 9999), (29, 9999), (30, 9999), (32, 9999), (34, 9999)] o o)
    exact ⟨hB_o, fr_o⟩
  ·
    refine T_qB (t_X12_isMark o x2 hB_o (by omega)) (fun r29 hc_r29 hp5 => ?_)
    replace hp5 : ((r29 = 1 ∧ 0 ≤ x2 ∧ x2 < o.1 0 32) ∨ (r29 = 0 ∧ (x2 < 0 ∨ o.1 0 32 ≤ x2))) := hp5
    refine T_qEq ⟨by omega, by omega⟩ ⟨by decide, by decide⟩ (fun h6 => ?_) (fun h6 => ?_)
    ·
      unfold b_X12_take_16
      refine T_some ?_
      show BoxM o ∧ (Fr [(0, 0), (0, 2), (0, 32), (1, 9999), (16, 9999), (21, 9999), (25, 9999), (26, 9999), (27, 9999), (29, 9999), (30, 9999), (32, 9999), (34, 9999)] o o)
      exact ⟨hB_o, fr_o⟩
    ·
      refine T_qEq ⟨by omega, by omega⟩ ⟨by decide, by decide⟩ (fun h7 => ?_) (fun h7 => ?_)
      ·
        refine T_some ?_
        show BoxM o ∧ (Fr [(0, 0), (0, 2), (0, 32), (1, 9999), (16, 9999), (21, 9999), (25, 9999), (26, 9999), (27, 9999), (29, 9999), (30, 9999), (32, 9999), (34, 9999)] o o)
        exact ⟨hB_o, fr_o⟩
      ·
        refine T_qB (t_X12_isLine o x2 hB_o (by omega)) (fun r31 hc_r31 hp8 => ?_)
        replace hp8 : (0 ≤ r31 ∧ r31 ≤ 1) := hp8
        refine T_qEq ⟨by omega, by omega⟩ ⟨by decide, by decide⟩ (fun h9 => ?_) (fun h9 => ?_)
        ·
          refine T_qB2 (t_X12_meets o 3 hB_o (by omega)) (fun r49 o51 hc_r49 hp10 => ?_)
          replace hp10 : BoxM o51 ∧ (Fr [(0, 0), (1, 9999)] o o51) ∧ (r49 = -3) := hp10
          obtain ⟨hB_o51, fc_o51, hp10⟩ := hp10
          have fr_o51 : Fr [(0, 0), (0, 2), (0, 32), (1, 9999), (16, 9999), (21, 9999), (25, 9999), (26, 9999), (27, 9999), (29, 9999), (30, 9999), (32, 9999), (34, 9999)] o o51 := Fr.tr fr_o fc_o51 rfl
          have g0_27_o51 : o51.1 0 27 = o.1 0 27 := fc_o51.1 0 27 rfl
          have g0_32_o51 : o51.1 0 32 = o.1 0 32 := fc_o51.1 0 32 rfl
          have g0_17_o51 : o51.1 0 17 = o.1 0 17 := fc_o51.1 0 17 rfl
          refine T_some ?_
          show BoxM o51 ∧ (Fr [(0, 0), (0, 2), (0, 32), (1, 9999), (16, 9999), (21, 9999), (25, 9999), (26, 9999), (27, 9999), (29, 9999), (30, 9999), (32, 9999), (34, 9999)] o o51)
          exact ⟨hB_o51, fr_o51⟩
        ·
          refine T_qIn ⟨by omega, by omega⟩ ?_
          refine T_qNm (fun n34 e_n34 => ?_)
          have b_n34 : -9 ≤ n34 ∧ n34 ≤ 999 := by rw [e_n34]; exact bM_29 hB_o _
          refine T_qLt ⟨by omega, by omega⟩ ⟨by decide, by decide⟩ (fun h11 => ?_) (fun h11 => ?_)
          ·
            unfold b_X12_take_79
            refine T_some ?_
            show BoxM o ∧ (Fr [(0, 0), (0, 2), (0, 32), (1, 9999), (16, 9999), (21, 9999), (25, 9999), (26, 9999), (27, 9999), (29, 9999), (30, 9999), (32, 9999), (34, 9999)] o o)
            exact ⟨hB_o, fr_o⟩
          ·
            refine T_qIn ⟨by omega, by omega⟩ ?_
            refine T_qNm (fun n36 e_n36 => ?_)
            have b_n36 : 0 ≤ n36 ∧ n36 ≤ 1 := by rw [e_n36]; exact bM_16 hB_o _
            refine T_qEq ⟨by omega, by omega⟩ ⟨by decide, by decide⟩ (fun h12 => ?_) (fun h12 => ?_)
            ·
              refine T_qB (t_X12_cellsOf o x2 hB_o (by omega)) (fun p37 hc_p37 hp13 => ?_)
              refine T_qIn ⟨by omega, by omega⟩ ?_
              refine T_qNm (fun n40 e_n40 => ?_)
              have b_n40 : 0 ≤ n40 ∧ n40 ≤ 63 := by rw [e_n40]; exact bM_13 hB_o _
              refine T_qB (t_X12_has p37 n40 (by omega)) (fun r41 hc_r41 hp14 => ?_)
              replace hp14 : ((r41 = 1 ∧ bt p37 n40.toNat = true) ∨ (r41 = 0 ∧ bt p37 n40.toNat = false)) := hp14
              refine T_qEq ⟨by omega, by omega⟩ ⟨by decide, by decide⟩ (fun h15 => ?_) (fun h15 => ?_)
              ·
                unfold b_X12_take_79
                refine T_some ?_
                show BoxM o ∧ (Fr [(0, 0), (0, 2), (0, 32), (1, 9999), (16, 9999), (21, 9999), (25, 9999), (26, 9999), (27, 9999), (29, 9999), (30, 9999), (32, 9999), (34, 9999)] o o)
                exact ⟨hB_o, fr_o⟩
              ·
                refine T_qIn ⟨by omega, by omega⟩ ?_
                refine T_qNm (fun n44 e_n44 => ?_)
                have b_n44 : -9 ≤ n44 ∧ n44 ≤ 999 := by rw [e_n44]; exact bM_29 hB_o _
                refine T_qB (t_X12_valueOf o x1 (n44 - 1) hB_o (by omega) (by omega)) (fun r45 hc_r45 hp16 => ?_)
                replace hp16 : (-9 ≤ r45 ∧ r45 ≤ 100000) ∧ (r45 = -9 ∨ 0 ≤ r45) := hp16
                have hps_hp16 := hp16
                obtain ⟨hp16_0, hp16_1⟩ := hps_hp16
                replace hp16 := hid hp16
                refine T_qLt ⟨by omega, by omega⟩ ⟨by decide, by decide⟩ (fun h17 => ?_) (fun h17 => ?_)
                ·
                  refine T_qB (t_X12_firstValue o x1 hB_o (by omega) (by omega) k2) (fun r47 hc_r47 hp18 => ?_)
                  replace hp18 : (0 ≤ r47 ∧ r47 ≤ 100000) := hp18
                  unfold b_X12_take_109
                  refine T_qB2 (t_X12_enter o 3 x2 hB_o (by omega) (by omega) (by omega)) (fun r17 o19 hc_r17 hp19 => ?_)
                  replace hp19 : BoxM o19 ∧ (Fr [(0, 32), (25, 9999), (26, 9999), (27, 9999), (29, 9999), (30, 9999)] o o19) ∧ (r17 = o.1 0 32) ∧ (o19.1 0 32 = o.1 0 32 + 1) := hp19
                  obtain ⟨hB_o19, fc_o19, hp19⟩ := hp19
                  have fr_o19 : Fr [(0, 0), (0, 2), (0, 32), (1, 9999), (16, 9999), (21, 9999), (25, 9999), (26, 9999), (27, 9999), (29, 9999), (30, 9999), (32, 9999), (34, 9999)] o o19 := Fr.tr fr_o fc_o19 rfl
                  have g0_27_o19 : o19.1 0 27 = o.1 0 27 := fc_o19.1 0 27 rfl
                  have g0_32_o19 := bM_0_32 hB_o19
                  have g0_17_o19 : o19.1 0 17 = o.1 0 17 := fc_o19.1 0 17 rfl
                  refine T_qB (t_X12_nowInForce o19 2 hB_o19 (by omega)) (fun r20 hc_r20 hp20 => ?_)
                  replace hp20 : (0 ≤ r20 ∧ r20 ≤ 9999) := hp20
                  have hm9 := mul_rng (a := r20) (b := r47) (A := 9999) (B := 100000) (by omega) (by omega) (by omega) (by omega)
                  refine T_qDv ⟨⟨by omega, by omega⟩, ⟨by decide, by decide⟩, by decide⟩ ?_
                  have jd21 : jq (r20 * r47) 100 = (r20 * r47) / 100 := jq_nn (by omega)
                  refine T_qIn ⟨by omega, by omega⟩ ?_
                  refine T_qNm (fun o24 e_o24 => ?_)
                  have hB_o24 : BoxM o24 := by rw [e_o24]; exact Box.s1 hB_o19 (show 0 ≤ (jq (r20 * r47) 100) ∧ (jq (r20 * r47) 100) ≤ 10000000 from ⟨by omega, by omega⟩)
                  have fr_o24 : Fr [(0, 0), (0, 2), (0, 32), (1, 9999), (16, 9999), (21, 9999), (25, 9999), (26, 9999), (27, 9999), (29, 9999), (30, 9999), (32, 9999), (34, 9999)] o o24 := by rw [e_o24]; exact Fr.s1 fr_o19 rfl
                  have g0_27_o24 : o24.1 0 27 = o19.1 0 27 := by rw [e_o24]; rfl
                  have g0_32_o24 : o24.1 0 32 = o19.1 0 32 := by rw [e_o24]; rfl
                  have g0_17_o24 : o24.1 0 17 = o19.1 0 17 := by rw [e_o24]; rfl
                  refine T_qIn ⟨by omega, by omega⟩ ?_
                  refine T_qNm (fun o26 e_o26 => ?_)
                  have hB_o26 : BoxM o26 := by rw [e_o26]; exact Box.s2 hB_o24
                  have fr_o26 : Fr [(0, 0), (0, 2), (0, 32), (1, 9999), (16, 9999), (21, 9999), (25, 9999), (26, 9999), (27, 9999), (29, 9999), (30, 9999), (32, 9999), (34, 9999)] o o26 := by rw [e_o26]; exact Fr.s2 fr_o24 rfl
                  have g0_27_o26 : o26.1 0 27 = o24.1 0 27 := by rw [e_o26]; rfl
                  have g0_32_o26 : o26.1 0 32 = o24.1 0 32 := by rw [e_o26]; rfl
                  have g0_17_o26 : o26.1 0 17 = o24.1 0 17 := by rw [e_o26]; rfl
                  unfold e_X12_take_146
                  refine T_qB (tl_X12_take_146 x1 r17 o26 0 hB_o26 (by omega) (by omega) (by omega)) (fun r22 hc_r22 hp23 => ?_)
                  obtain ⟨o_24, q_o_24⟩ : ∃ q, q = r22 := ⟨_, rfl⟩
                  subst q_o_24
                  replace hp23 : BoxM o_24 ∧ (Fr [(21, 9999), (34, 9999)] o26 o_24) := hp23
                  have hps_hp23 := hp23
                  obtain ⟨hp23_0, hp23_1⟩ := hps_hp23
                  obtain ⟨hB_o_24, fc_o_24⟩ := hp23
                  have fr_o_24 : Fr [(0, 0), (0, 2), (0, 32), (1, 9999), (16, 9999), (21, 9999), (25, 9999), (26, 9999), (27, 9999), (29, 9999), (30, 9999), (32, 9999), (34, 9999)] o o_24 := Fr.tr fr_o26 fc_o_24 rfl
                  have g0_27_o_24 : o_24.1 0 27 = o26.1 0 27 := fc_o_24.1 0 27 rfl
                  have g0_32_o_24 : o_24.1 0 32 = o26.1 0 32 := fc_o_24.1 0 32 rfl
                  have g0_17_o_24 : o_24.1 0 17 = o26.1 0 17 := fc_o_24.1 0 17 rfl
                  show T (b_X12_take_195 o_24 x1 r17) _
                  unfold b_X12_take_195
                  refine T_qIn ⟨by omega, by omega⟩ ?_
                  refine T_qZ (Or.inr rfl) ?_
                  refine T_qNm (fun o3 e_o3 => ?_)
                  have hB_o3 : BoxM o3 := by rw [e_o3]; exact Box.s1 hB_o_24 (show 0 ≤ 1 ∧ 1 ≤ 1 from ⟨by omega, by omega⟩)
                  have fr_o3 : Fr [(0, 0), (0, 2), (0, 32), (1, 9999), (16, 9999), (21, 9999), (25, 9999), (26, 9999), (27, 9999), (29, 9999), (30, 9999), (32, 9999), (34, 9999)] o o3 := by rw [e_o3]; exact Fr.s1 fr_o_24 rfl
                  have g0_27_o3 : o3.1 0 27 = o_24.1 0 27 := by rw [e_o3]; rfl
                  have g0_32_o3 : o3.1 0 32 = o_24.1 0 32 := by rw [e_o3]; rfl
                  have g0_17_o3 : o3.1 0 17 = o_24.1 0 17 := by rw [e_o3]; rfl
                  refine T_qIn ⟨by omega, by omega⟩ ?_
                  refine T_qNm (fun n5 e_n5 => ?_)
                  have b_n5 : 0 ≤ n5 ∧ n5 ≤ 10000000 := by rw [e_n5]; exact bM_32 hB_o3 _
                  refine T_qB2 (t_X12_ask o3 n5 r17 hB_o3) (fun r6 o8 hc_r6 hp25 => ?_)
                  replace hp25 : BoxM o8 ∧ (Fr [(0, 2)] o3 o8) ∧ (r6 = r17) := hp25
                  obtain ⟨hB_o8, fc_o8, hp25⟩ := hp25
                  have fr_o8 : Fr [(0, 0), (0, 2), (0, 32), (1, 9999), (16, 9999), (21, 9999), (25, 9999), (26, 9999), (27, 9999), (29, 9999), (30, 9999), (32, 9999), (34, 9999)] o o8 := Fr.tr fr_o3 fc_o8 rfl
                  have g0_27_o8 : o8.1 0 27 = o3.1 0 27 := fc_o8.1 0 27 rfl
                  have g0_32_o8 : o8.1 0 32 = o3.1 0 32 := fc_o8.1 0 32 rfl
                  have g0_17_o8 : o8.1 0 17 = o3.1 0 17 := fc_o8.1 0 17 rfl
                  refine T_some ?_
                  show BoxM o8 ∧ (Fr [(0, 0), (0, 2), (0, 32), (1, 9999), (16, 9999), (21, 9999), (25, 9999), (26, 9999), (27, 9999), (29, 9999), (30, 9999), (32, 9999), (34, 9999)] o o8)
                  exact ⟨hB_o8, fr_o8⟩
                ·
                  unfold b_X12_take_109
                  refine T_qB2 (t_X12_enter o 3 x2 hB_o (by omega) (by omega) (by omega)) (fun r17 o19 hc_r17 hp26 => ?_)
                  replace hp26 : BoxM o19 ∧ (Fr [(0, 32), (25, 9999), (26, 9999), (27, 9999), (29, 9999), (30, 9999)] o o19) ∧ (r17 = o.1 0 32) ∧ (o19.1 0 32 = o.1 0 32 + 1) := hp26
                  obtain ⟨hB_o19, fc_o19, hp26⟩ := hp26
                  have fr_o19 : Fr [(0, 0), (0, 2), (0, 32), (1, 9999), (16, 9999), (21, 9999), (25, 9999), (26, 9999), (27, 9999), (29, 9999), (30, 9999), (32, 9999), (34, 9999)] o o19 := Fr.tr fr_o fc_o19 rfl
                  have g0_27_o19 : o19.1 0 27 = o.1 0 27 := fc_o19.1 0 27 rfl
                  have g0_32_o19 := bM_0_32 hB_o19
                  have g0_17_o19 : o19.1 0 17 = o.1 0 17 := fc_o19.1 0 17 rfl
                  refine T_qB (t_X12_nowInForce o19 2 hB_o19 (by omega)) (fun r20 hc_r20 hp27 => ?_)
                  replace hp27 : (0 ≤ r20 ∧ r20 ≤ 9999) := hp27
                  have hm9 := mul_rng (a := r20) (b := r45) (A := 9999) (B := 100000) (by omega) (by omega) (by omega) (by omega)
                  refine T_qDv ⟨⟨by omega, by omega⟩, ⟨by decide, by decide⟩, by decide⟩ ?_
                  have jd28 : jq (r20 * r45) 100 = (r20 * r45) / 100 := jq_nn (by omega)
                  refine T_qIn ⟨by omega, by omega⟩ ?_
                  refine T_qNm (fun o24 e_o24 => ?_)
                  have hB_o24 : BoxM o24 := by rw [e_o24]; exact Box.s1 hB_o19 (show 0 ≤ (jq (r20 * r45) 100) ∧ (jq (r20 * r45) 100) ≤ 10000000 from ⟨by omega, by omega⟩)
                  have fr_o24 : Fr [(0, 0), (0, 2), (0, 32), (1, 9999), (16, 9999), (21, 9999), (25, 9999), (26, 9999), (27, 9999), (29, 9999), (30, 9999), (32, 9999), (34, 9999)] o o24 := by rw [e_o24]; exact Fr.s1 fr_o19 rfl
                  have g0_27_o24 : o24.1 0 27 = o19.1 0 27 := by rw [e_o24]; rfl
                  have g0_32_o24 : o24.1 0 32 = o19.1 0 32 := by rw [e_o24]; rfl
                  have g0_17_o24 : o24.1 0 17 = o19.1 0 17 := by rw [e_o24]; rfl
                  refine T_qIn ⟨by omega, by omega⟩ ?_
                  refine T_qNm (fun o26 e_o26 => ?_)
                  have hB_o26 : BoxM o26 := by rw [e_o26]; exact Box.s2 hB_o24
                  have fr_o26 : Fr [(0, 0), (0, 2), (0, 32), (1, 9999), (16, 9999), (21, 9999), (25, 9999), (26, 9999), (27, 9999), (29, 9999), (30, 9999), (32, 9999), (34, 9999)] o o26 := by rw [e_o26]; exact Fr.s2 fr_o24 rfl
                  have g0_27_o26 : o26.1 0 27 = o24.1 0 27 := by rw [e_o26]; rfl
                  have g0_32_o26 : o26.1 0 32 = o24.1 0 32 := by rw [e_o26]; rfl
                  have g0_17_o26 : o26.1 0 17 = o24.1 0 17 := by rw [e_o26]; rfl
                  unfold e_X12_take_146
                  refine T_qB (tl_X12_take_146 x1 r17 o26 0 hB_o26 (by omega) (by omega) (by omega)) (fun r29 hc_r29 hp30 => ?_)
                  obtain ⟨o_31, q_o_31⟩ : ∃ q, q = r29 := ⟨_, rfl⟩
                  subst q_o_31
                  replace hp30 : BoxM o_31 ∧ (Fr [(21, 9999), (34, 9999)] o26 o_31) := hp30
                  have hps_hp30 := hp30
                  obtain ⟨hp30_0, hp30_1⟩ := hps_hp30
                  obtain ⟨hB_o_31, fc_o_31⟩ := hp30
                  have fr_o_31 : Fr [(0, 0), (0, 2), (0, 32), (1, 9999), (16, 9999), (21, 9999), (25, 9999), (26, 9999), (27, 9999), (29, 9999), (30, 9999), (32, 9999), (34, 9999)] o o_31 := Fr.tr fr_o26 fc_o_31 rfl
                  have g0_27_o_31 : o_31.1 0 27 = o26.1 0 27 := fc_o_31.1 0 27 rfl
                  have g0_32_o_31 : o_31.1 0 32 = o26.1 0 32 := fc_o_31.1 0 32 rfl
                  have g0_17_o_31 : o_31.1 0 17 = o26.1 0 17 := fc_o_31.1 0 17 rfl
                  show T (b_X12_take_195 o_31 x1 r17) _
                  unfold b_X12_take_195
                  refine T_qIn ⟨by omega, by omega⟩ ?_
                  refine T_qZ (Or.inr rfl) ?_
                  refine T_qNm (fun o3 e_o3 => ?_)
                  have hB_o3 : BoxM o3 := by rw [e_o3]; exact Box.s1 hB_o_31 (show 0 ≤ 1 ∧ 1 ≤ 1 from ⟨by omega, by omega⟩)
                  have fr_o3 : Fr [(0, 0), (0, 2), (0, 32), (1, 9999), (16, 9999), (21, 9999), (25, 9999), (26, 9999), (27, 9999), (29, 9999), (30, 9999), (32, 9999), (34, 9999)] o o3 := by rw [e_o3]; exact Fr.s1 fr_o_31 rfl
                  have g0_27_o3 : o3.1 0 27 = o_31.1 0 27 := by rw [e_o3]; rfl
                  have g0_32_o3 : o3.1 0 32 = o_31.1 0 32 := by rw [e_o3]; rfl
                  have g0_17_o3 : o3.1 0 17 = o_31.1 0 17 := by rw [e_o3]; rfl
                  refine T_qIn ⟨by omega, by omega⟩ ?_
                  refine T_qNm (fun n5 e_n5 => ?_)
                  have b_n5 : 0 ≤ n5 ∧ n5 ≤ 10000000 := by rw [e_n5]; exact bM_32 hB_o3 _
                  refine T_qB2 (t_X12_ask o3 n5 r17 hB_o3) (fun r6 o8 hc_r6 hp32 => ?_)
                  replace hp32 : BoxM o8 ∧ (Fr [(0, 2)] o3 o8) ∧ (r6 = r17) := hp32
                  obtain ⟨hB_o8, fc_o8, hp32⟩ := hp32
                  have fr_o8 : Fr [(0, 0), (0, 2), (0, 32), (1, 9999), (16, 9999), (21, 9999), (25, 9999), (26, 9999), (27, 9999), (29, 9999), (30, 9999), (32, 9999), (34, 9999)] o o8 := Fr.tr fr_o3 fc_o8 rfl
                  have g0_27_o8 : o8.1 0 27 = o3.1 0 27 := fc_o8.1 0 27 rfl
                  have g0_32_o8 : o8.1 0 32 = o3.1 0 32 := fc_o8.1 0 32 rfl
                  have g0_17_o8 : o8.1 0 17 = o3.1 0 17 := fc_o8.1 0 17 rfl
                  refine T_some ?_
                  show BoxM o8 ∧ (Fr [(0, 0), (0, 2), (0, 32), (1, 9999), (16, 9999), (21, 9999), (25, 9999), (26, 9999), (27, 9999), (29, 9999), (30, 9999), (32, 9999), (34, 9999)] o o8)
                  exact ⟨hB_o8, fr_o8⟩
            ·
              unfold b_X12_take_79
              refine T_some ?_
              show BoxM o ∧ (Fr [(0, 0), (0, 2), (0, 32), (1, 9999), (16, 9999), (21, 9999), (25, 9999), (26, 9999), (27, 9999), (29, 9999), (30, 9999), (32, 9999), (34, 9999)] o o)
              exact ⟨hB_o, fr_o⟩
set_option maxRecDepth 20000 in
set_option maxHeartbeats 4000000 in
theorem t_X12_tear (o : OO) (x1 : Int) (hB_o : BoxM o) (k0 : inR x1) : T (s_X12_tear o x1) (fun v => BoxM v.2 ∧ (Fr [(0, 0), (1, 9999), (2, 9999)] o v.2)) := by
  have fr_o : Fr [(0, 0), (1, 9999), (2, 9999)] o o := Fr.rf
  unfold s_X12_tear
  refine T_qB2 (t_X12_askedRow o x1 hB_o (by omega)) (fun r1 o3 hc_r1 hp1 => ?_)
  replace hp1 : BoxM o3 ∧ (Fr [(0, 0), (1, 9999)] o o3) ∧ (r1 = -1 ∨ r1 = -3 ∨ (r1 = 0 ∧ 0 ≤ x1 ∧ x1 ≤ 5 ∧ 0 ≤ o3.1 2 x1.toNat)) := hp1
  obtain ⟨hB_o3, fc_o3, hp1⟩ := hp1
  have fr_o3 : Fr [(0, 0), (1, 9999), (2, 9999)] o o3 := Fr.tr fr_o fc_o3 rfl
  refine T_qLt ⟨by omega, by omega⟩ ⟨by decide, by decide⟩ (fun h2 => ?_) (fun h2 => ?_)
  ·
    refine T_some ?_
    show BoxM o3 ∧ (Fr [(0, 0), (1, 9999), (2, 9999)] o o3)
    exact ⟨hB_o3, fr_o3⟩
  ·
    refine T_qIn ⟨by omega, by omega⟩ ?_
    refine T_qNm (fun o5 e_o5 => ?_)
    have hB_o5 : BoxM o5 := by rw [e_o5]; exact Box.s1 hB_o3 (show -9 ≤ (-9) ∧ (-9) ≤ 40 from ⟨by omega, by omega⟩)
    have fr_o5 : Fr [(0, 0), (1, 9999), (2, 9999)] o o5 := by rw [e_o5]; exact Fr.s1 fr_o3 rfl
    refine T_some ?_
    show BoxM o5 ∧ (Fr [(0, 0), (1, 9999), (2, 9999)] o o5)
    exact ⟨hB_o5, fr_o5⟩
set_option maxRecDepth 20000 in
set_option maxHeartbeats 4000000 in
theorem tl_X12_text_34 (x1 : Int) (x2 : Int) (i_o : OO) (i_x3 : Int) (hB_i_o : BoxM i_o) (k0 : inR x1) (k1 : inR x2) (k2 : 0 ≤ x1 ∧ x1 ≤ 3) (v0 : 0 ≤ i_x3 ∧ i_x3 ≤ 40) : T (loopW (fun s => l_X12_text_34 x1 x2 s.1 s.2) (i_o, i_x3)) (fun r => BoxM r ∧ (Fr [(6, 9999)] i_o r)) := by
  have fr_i_o : Fr [(6, 9999)] i_o i_o := Fr.rf
  refine T_loop (fun s => BoxM s.1 ∧ (Fr [(6, 9999)] i_o s.1) ∧ (0 ≤ s.2 ∧ s.2 ≤ 40)) (fun s => (40 - s.2).toNat) (by exact ⟨hB_i_o, fr_i_o, v0⟩) (fun s hs => ?_)
  obtain ⟨o, x3⟩ := s
  replace hs : BoxM o ∧ (Fr [(6, 9999)] i_o o) ∧ (0 ≤ x3 ∧ x3 ≤ 40) := hs
  obtain ⟨hB_o, fr_o, w0⟩ := hs
  show T (l_X12_text_34 x1 x2 o x3) _
  unfold l_X12_text_34
  refine T_qLt ⟨by omega, by omega⟩ ⟨by decide, by decide⟩ (fun h1 => ?_) (fun h1 => ?_)
  ·
    refine T_qIn ⟨by omega, by omega⟩ ?_
    refine T_qNm (fun o2 e_o2 => ?_)
    have hB_o2 : BoxM o2 := by rw [e_o2]; exact Box.s1 hB_o (show -128 ≤ 32 ∧ 32 ≤ 127 from ⟨by omega, by omega⟩)
    have fr_o2 : Fr [(6, 9999)] i_o o2 := by rw [e_o2]; exact Fr.s1 fr_o rfl
    refine T_some ?_
    show (BoxM o2 ∧ (Fr [(6, 9999)] i_o o2) ∧ (0 ≤ (x3 + 1) ∧ (x3 + 1) ≤ 40)) ∧ (40 - (x3 + 1)).toNat < (40 - x3).toNat
    exact ⟨⟨hB_o2, fr_o2, (by omega)⟩, by omega⟩
  ·
    refine T_some ?_
    show BoxM o ∧ (Fr [(6, 9999)] i_o o)
    exact ⟨hB_o, fr_o⟩
set_option maxRecDepth 20000 in
set_option maxHeartbeats 4000000 in
theorem t_X12_text (o : OO) (x1 : Int) (x2 : Int) (hB_o : BoxM o) (k0 : inR x1) (k1 : inR x2) : T (s_X12_text o x1 x2) (fun v => BoxM v.2 ∧ (Fr [(0, 0), (1, 9999), (5, 9999), (6, 9999)] o v.2)) := by
  have fr_o : Fr [(0, 0), (1, 9999), (5, 9999), (6, 9999)] o o := Fr.rf
  unfold s_X12_text
  refine T_qB (t_X12_isText x1 (by omega)) (fun r3 hc_r3 hp2 => ?_)
  replace hp2 : ((r3 = 1 ∧ 0 ≤ x1 ∧ x1 ≤ 3) ∨ (r3 = 0 ∧ (x1 < 0 ∨ 3 < x1))) := hp2
  refine T_qEq ⟨by omega, by omega⟩ ⟨by decide, by decide⟩ (fun h3 => ?_) (fun h3 => ?_)
  ·
    unfold b_X12_text_13
    refine T_some ?_
    show BoxM o ∧ (Fr [(0, 0), (1, 9999), (5, 9999), (6, 9999)] o o)
    exact ⟨hB_o, fr_o⟩
  ·
    refine T_qLt ⟨by decide, by decide⟩ ⟨by omega, by omega⟩ (fun h4 => ?_) (fun h4 => ?_)
    ·
      unfold b_X12_text_13
      refine T_some ?_
      show BoxM o ∧ (Fr [(0, 0), (1, 9999), (5, 9999), (6, 9999)] o o)
      exact ⟨hB_o, fr_o⟩
    ·
      refine T_qLt ⟨by omega, by omega⟩ ⟨by decide, by decide⟩ (fun h5 => ?_) (fun h5 => ?_)
      ·
        refine T_qB2 (t_X12_meets o 5 hB_o (by omega)) (fun r7 o9 hc_r7 hp6 => ?_)
        replace hp6 : BoxM o9 ∧ (Fr [(0, 0), (1, 9999)] o o9) ∧ (r7 = -3) := hp6
        obtain ⟨hB_o9, fc_o9, hp6⟩ := hp6
        have fr_o9 : Fr [(0, 0), (1, 9999), (5, 9999), (6, 9999)] o o9 := Fr.tr fr_o fc_o9 rfl
        refine T_some ?_
        show BoxM o9 ∧ (Fr [(0, 0), (1, 9999), (5, 9999), (6, 9999)] o o9)
        exact ⟨hB_o9, fr_o9⟩
      ·
        refine T_qIn ⟨by omega, by omega⟩ ?_
        refine T_qNm (fun o6 e_o6 => ?_)
        have hB_o6 : BoxM o6 := by rw [e_o6]; exact Box.s1 hB_o (show -9 ≤ x2 ∧ x2 ≤ 40 from ⟨by omega, by omega⟩)
        have fr_o6 : Fr [(0, 0), (1, 9999), (5, 9999), (6, 9999)] o o6 := by rw [e_o6]; exact Fr.s1 fr_o rfl
        unfold e_X12_text_34
        refine T_qB (tl_X12_text_34 x1 x2 o6 0 hB_o6 (by omega) (by omega) (by omega) (by omega)) (fun r7 hc_r7 hp8 => ?_)
        obtain ⟨o_9, q_o_9⟩ : ∃ q, q = r7 := ⟨_, rfl⟩
        subst q_o_9
        replace hp8 : BoxM o_9 ∧ (Fr [(6, 9999)] o6 o_9) := hp8
        have hps_hp8 := hp8
        obtain ⟨hp8_0, hp8_1⟩ := hps_hp8
        obtain ⟨hB_o_9, fc_o_9⟩ := hp8
        have fr_o_9 : Fr [(0, 0), (1, 9999), (5, 9999), (6, 9999)] o o_9 := Fr.tr fr_o6 fc_o_9 rfl
        show T (b_X12_text_59 o_9 x2) _
        unfold b_X12_text_59
        refine T_some ?_
        show BoxM o_9 ∧ (Fr [(0, 0), (1, 9999), (5, 9999), (6, 9999)] o o_9)
        exact ⟨hB_o_9, fr_o_9⟩
set_option maxRecDepth 20000 in
set_option maxHeartbeats 4000000 in
theorem t_X12_told (o : OO) (x1 : Int) (x2 : Int) (hB_o : BoxM o) (k0 : inR x1) (k1 : inR x2) : T (s_X12_told o x1 x2) (fun v => BoxM v.2 ∧ (Fr [(0, 2)] o v.2)) := by
  have fr_o : Fr [(0, 2)] o o := Fr.rf
  have g0_32_o := bM_0_32 hB_o
  unfold s_X12_told
  refine T_qB (t_X12_isMark o x1 hB_o (by omega)) (fun r1 hc_r1 hp1 => ?_)
  replace hp1 : ((r1 = 1 ∧ 0 ≤ x1 ∧ x1 < o.1 0 32) ∨ (r1 = 0 ∧ (x1 < 0 ∨ o.1 0 32 ≤ x1))) := hp1
  refine T_qEq ⟨by omega, by omega⟩ ⟨by decide, by decide⟩ (fun h2 => ?_) (fun h2 => ?_)
  ·
    unfold b_X12_told_31
    unfold b_X12_told_32
    refine T_some ?_
    show BoxM o ∧ (Fr [(0, 2)] o o)
    exact ⟨hB_o, fr_o⟩
  ·
    refine T_qB (t_X12_in x2 0 2 (by omega) (by omega) (by omega)) (fun r3 hc_r3 hp3 => ?_)
    replace hp3 : ((r3 = 1 ∧ 0 ≤ x2 ∧ x2 ≤ 2) ∨ (r3 = 0 ∧ (x2 < 0 ∨ 2 < x2))) := hp3
    refine T_qEq ⟨by omega, by omega⟩ ⟨by decide, by decide⟩ (fun h4 => ?_) (fun h4 => ?_)
    ·
      unfold b_X12_told_31
      unfold b_X12_told_32
      refine T_some ?_
      show BoxM o ∧ (Fr [(0, 2)] o o)
      exact ⟨hB_o, fr_o⟩
    ·
      refine T_qB (t_X12_markTells o x1 x2 hB_o (by omega) (by omega)) (fun r5 hc_r5 hp5 => ?_)
      replace hp5 : (inR r5) := hp5
      refine T_qB2 (t_X12_ask o r5 1 hB_o) (fun r7 o9 hc_r7 hp6 => ?_)
      replace hp6 : BoxM o9 ∧ (Fr [(0, 2)] o o9) ∧ (r7 = 1) := hp6
      obtain ⟨hB_o9, fc_o9, hp6⟩ := hp6
      have fr_o9 : Fr [(0, 2)] o o9 := Fr.tr fr_o fc_o9 rfl
      have g0_32_o9 : o9.1 0 32 = o.1 0 32 := fc_o9.1 0 32 rfl
      unfold b_X12_told_32
      refine T_some ?_
      show BoxM o9 ∧ (Fr [(0, 2)] o o9)
      exact ⟨hB_o9, fr_o9⟩
set_option maxRecDepth 20000 in
set_option maxHeartbeats 4000000 in
theorem t_X12_value (o : OO) (x1 : Int) (x2 : Int) (hB_o : BoxM o) (k0 : inR x1) (k1 : inR x2) : T (s_X12_value o x1 x2) (fun _ => True) := by
  have g0_17_o := bM_0_17 hB_o
  unfold s_X12_value
  refine T_qB (t_X12_isBuilding o x1 hB_o (by omega)) (fun r1 hc_r1 hp1 => ?_)
  replace hp1 : ((r1 = 1 ∧ 0 ≤ x1 ∧ x1 < o.1 0 17) ∨ (r1 = 0 ∧ (x1 < 0 ∨ o.1 0 17 ≤ x1))) := hp1
  refine T_qEq ⟨by omega, by omega⟩ ⟨by decide, by decide⟩ (fun h2 => ?_) (fun h2 => ?_)
  ·
    unfold b_X12_value_24
    unfold b_X12_value_25
    refine T_some ?_
    show True
    exact trivial
  ·
    refine T_qB (t_X12_isDay x2 (by omega)) (fun r3 hc_r3 hp3 => ?_)
    replace hp3 : ((r3 = 1 ∧ 0 ≤ x2 ∧ x2 ≤ 999) ∨ (r3 = 0 ∧ (x2 < 0 ∨ 999 < x2))) := hp3
    refine T_qEq ⟨by omega, by omega⟩ ⟨by decide, by decide⟩ (fun h4 => ?_) (fun h4 => ?_)
    ·
      unfold b_X12_value_24
      unfold b_X12_value_25
      refine T_some ?_
      show True
      exact trivial
    ·
      refine T_qB (t_X12_valueOf o x1 x2 hB_o (by omega) (by omega)) (fun r5 hc_r5 hp5 => ?_)
      replace hp5 : (-9 ≤ r5 ∧ r5 ≤ 100000) ∧ (r5 = -9 ∨ 0 ≤ r5) := hp5
      have hps_hp5 := hp5
      obtain ⟨hp5_0, hp5_1⟩ := hps_hp5
      replace hp5 := hid hp5
      unfold b_X12_value_25
      refine T_some ?_
      show True
      exact trivial
set_option maxRecDepth 20000 in
set_option maxHeartbeats 4000000 in
theorem t_X12_walk (o : OO) (x1 : Int) (x2 : Int) (hB_o : BoxM o) (k0 : 0 ≤ x1 ∧ x1 ≤ 39) (k1 : 0 ≤ x2 ∧ x2 ≤ 31) : T (s_X12_walk o x1 x2) (fun v => (0 ≤ v ∧ v ≤ 14)) := by
  unfold s_X12_walk
  refine T_qIn ⟨by omega, by omega⟩ ?_
  refine T_qNm (fun n2 e_n2 => ?_)
  have b_n2 : -9 ≤ n2 ∧ n2 ≤ 63 := by rw [e_n2]; exact bM_22 hB_o _
  refine T_qLt ⟨by omega, by omega⟩ ⟨by decide, by decide⟩ (fun h1 => ?_) (fun h1 => ?_)
  ·
    unfold b_X12_walk_28
    refine T_some ?_
    show (0 ≤ 0 ∧ 0 ≤ 14)
    exact (by omega)
  ·
    refine T_qIn ⟨by omega, by omega⟩ ?_
    refine T_qNm (fun n4 e_n4 => ?_)
    have b_n4 : -9 ≤ n4 ∧ n4 ≤ 63 := by rw [e_n4]; exact bM_22 hB_o _
    refine T_qIn ⟨by omega, by omega⟩ ?_
    refine T_qNm (fun n6 e_n6 => ?_)
    have b_n6 : 0 ≤ n6 ∧ n6 ≤ 63 := by rw [e_n6]; exact bM_13 hB_o _
    refine T_qB (t_X12_apart n4 n6 (by omega) (by omega)) (fun r7 hc_r7 hp2 => ?_)
    replace hp2 : (0 ≤ r7 ∧ r7 ≤ 14) := hp2
    unfold b_X12_walk_28
    refine T_some ?_
    show (0 ≤ r7 ∧ r7 ≤ 14)
    exact (by omega)
set_option maxRecDepth 20000 in
set_option maxHeartbeats 4000000 in
theorem t_X12_relax (o : OO) (x1 : Int) (x2 : Int) (x3 : Int) (x4 : Int) (hB_o : BoxM o) (k0 : 0 ≤ x1 ∧ x1 ≤ 31) (k1 : inR x2) (k2 : 0 ≤ x3 ∧ x3 ≤ 39) (k3 : -9 ≤ x4 ∧ x4 ≤ 31) : T (s_X12_relax o x1 x2 x3 x4) (fun v => BoxM v.2 ∧ (Fr [(49, 9999), (50, 9999), (51, 9999)] o v.2) ∧ (RP o v.2 v.1 x1 x2 x3 x4)) := by
  have fr_o : Fr [(49, 9999), (50, 9999), (51, 9999)] o o := Fr.rf
  unfold s_X12_relax
  refine T_qIn ⟨by omega, by omega⟩ ?_
  refine T_qNm (fun n2 e_n2 => ?_)
  have b_n2 : -40 ≤ n2 ∧ n2 ≤ 20 := by rw [e_n2]; exact bM_48 hB_o _
  refine T_qLt ⟨by omega, by omega⟩ ⟨by decide, by decide⟩ (fun h1 => ?_) (fun h1 => ?_)
  ·
    unfold b_X12_relax_19
    refine T_qZ (Or.inl rfl) ?_
    refine T_some ?_
    show BoxM o ∧ (Fr [(49, 9999), (50, 9999), (51, 9999)] o o) ∧ (RP o o 0 x1 x2 x3 x4)
    exact ⟨hB_o, fr_o, (Or.inl ⟨rfl, rfl, by omega⟩)⟩
  ·
    refine T_qIn ⟨by omega, by omega⟩ ?_
    refine T_qNm (fun n4 e_n4 => ?_)
    have b_n4 : -2147483648 ≤ n4 ∧ n4 ≤ 2147483647 := by rw [e_n4]; exact bM_49 hB_o _
    refine T_qLt ⟨by omega, by omega⟩ ⟨by omega, by omega⟩ (fun h2 => ?_) (fun h2 => ?_)
    ·
      refine T_qIn ⟨by omega, by omega⟩ ?_
      refine T_qNm (fun o6 e_o6 => ?_)
      have hB_o6 : BoxM o6 := by rw [e_o6]; exact Box.s1 hB_o (show -2147483648 ≤ x2 ∧ x2 ≤ 2147483647 from ⟨by omega, by omega⟩)
      have fr_o6 : Fr [(49, 9999), (50, 9999), (51, 9999)] o o6 := by rw [e_o6]; exact Fr.s1 fr_o rfl
      refine T_qIn ⟨by omega, by omega⟩ ?_
      refine T_qNm (fun o8 e_o8 => ?_)
      have hB_o8 : BoxM o8 := by rw [e_o8]; exact Box.s1 hB_o6 (show 0 ≤ x3 ∧ x3 ≤ 39 from ⟨by omega, by omega⟩)
      have fr_o8 : Fr [(49, 9999), (50, 9999), (51, 9999)] o o8 := by rw [e_o8]; exact Fr.s1 fr_o6 rfl
      refine T_qIn ⟨by omega, by omega⟩ ?_
      refine T_qNm (fun o10 e_o10 => ?_)
      have hB_o10 : BoxM o10 := by rw [e_o10]; exact Box.s1 hB_o8 (show -9 ≤ x4 ∧ x4 ≤ 31 from ⟨by omega, by omega⟩)
      have fr_o10 : Fr [(49, 9999), (50, 9999), (51, 9999)] o o10 := by rw [e_o10]; exact Fr.s1 fr_o8 rfl
      refine T_qZ (Or.inr rfl) ?_
      refine T_some ?_
      show BoxM o10 ∧ (Fr [(49, 9999), (50, 9999), (51, 9999)] o o10) ∧ (RP o o10 1 x1 x2 x3 x4)
      exact ⟨hB_o10, fr_o10, (Or.inr ⟨rfl, by rw [e_o10, e_o8, e_o6], by omega, by omega⟩)⟩
    ·
      unfold b_X12_relax_19
      refine T_qZ (Or.inl rfl) ?_
      refine T_some ?_
      show BoxM o ∧ (Fr [(49, 9999), (50, 9999), (51, 9999)] o o) ∧ (RP o o 0 x1 x2 x3 x4)
      exact ⟨hB_o, fr_o, (Or.inl ⟨rfl, rfl, by omega⟩)⟩
set_option maxRecDepth 20000 in
set_option maxHeartbeats 4000000 in
theorem tl_X12_cheapest_2  (i_o : OO) (i_x1 : Int) (hB_i_o : BoxM i_o) (v0 : 0 ≤ i_x1 ∧ i_x1 ≤ i_o.1 0 17) (v1 : NVN i_o i_x1) : T (loopW (fun s => l_X12_cheapest_2 s.1 s.2) (i_o, i_x1)) (fun r => BoxM r ∧ (Fr [(49, 9999)] i_o r) ∧ (NVN r (r.1 0 17))) := by
  have fr_i_o : Fr [(49, 9999)] i_o i_o := Fr.rf
  refine T_loop (fun s => BoxM s.1 ∧ (Fr [(49, 9999)] i_o s.1) ∧ (0 ≤ s.2 ∧ s.2 ≤ s.1.1 0 17) ∧ (NVN s.1 s.2)) (fun s => (s.1.1 0 17 - s.2).toNat) (by exact ⟨hB_i_o, fr_i_o, v0, v1⟩) (fun s hs => ?_)
  obtain ⟨o, x1⟩ := s
  replace hs : BoxM o ∧ (Fr [(49, 9999)] i_o o) ∧ (0 ≤ x1 ∧ x1 ≤ o.1 0 17) ∧ (NVN o x1) := hs
  obtain ⟨hB_o, fr_o, w0, w1⟩ := hs
  have g0_17_i := bM_0_17 hB_i_o
  have g0_17_o : o.1 0 17 = i_o.1 0 17 := fr_o.1 0 17 rfl
  have g0_27_i := bM_0_27 hB_i_o
  have g0_27_o : o.1 0 27 = i_o.1 0 27 := fr_o.1 0 27 rfl
  show T (l_X12_cheapest_2 o x1) _
  unfold l_X12_cheapest_2
  refine T_qLt ⟨by omega, by omega⟩ ⟨by omega, by omega⟩ (fun h1 => ?_) (fun h1 => ?_)
  ·
    refine T_qIn ⟨by omega, by omega⟩ ?_
    refine T_qNm (fun o34 e_o34 => ?_)
    have hB_o34 : BoxM o34 := by rw [e_o34]; exact Box.s1 hB_o (show -2147483648 ≤ 100000000 ∧ 100000000 ≤ 2147483647 from ⟨by omega, by omega⟩)
    have fr_o34 : Fr [(49, 9999)] i_o o34 := by rw [e_o34]; exact Fr.s1 fr_o rfl
    have g0_17_o34 : o34.1 0 17 = o.1 0 17 := by rw [e_o34]; rfl
    have g0_27_o34 : o34.1 0 27 = o.1 0 27 := by rw [e_o34]; rfl
    have nv34 : NVN o34 (x1 + 1) := by rw [e_o34]; exact NVN_s w1 (by omega)
    refine T_some ?_
    show (BoxM o34 ∧ (Fr [(49, 9999)] i_o o34) ∧ (0 ≤ (x1 + 1) ∧ (x1 + 1) ≤ o34.1 0 17) ∧ (NVN o34 (x1 + 1))) ∧ (o34.1 0 17 - (x1 + 1)).toNat < (o.1 0 17 - x1).toNat
    exact ⟨⟨hB_o34, fr_o34, (by omega), (by first | assumption | exact NVN_0 | (have q9 := w1; rwa [show x1 = o.1 0 17 by omega] at q9))⟩, by omega⟩
  ·
    refine T_some ?_
    show BoxM o ∧ (Fr [(49, 9999)] i_o o) ∧ (NVN o (o.1 0 17))
    exact ⟨hB_o, fr_o, (by first | assumption | exact NVN_0 | (have q9 := w1; rwa [show x1 = o.1 0 17 by omega] at q9))⟩
set_option maxRecDepth 20000 in
set_option maxHeartbeats 4000000 in
theorem tl_X12_cheapest_37 (x1 : Int) (i_o : OO) (i_x2 : Int) (hB_i_o : BoxM i_o) (k0 : KX i_o) (k1 : 0 ≤ x1 ∧ x1 < i_o.1 0 27) (v0 : 0 ≤ i_x2 ∧ i_x2 ≤ i_o.1 0 17) (v1 : RV i_o i_o) (v2 : R4a i_o x1) (v3 : R4c i_o (x1 + 1) ∨ R4c i_o x1) (v4 : R4d i_o x1 i_x2) : T (loopW (fun s => l_X12_cheapest_37 x1 s.1 s.2) (i_o, i_x2)) (fun r => BoxM r ∧ (Fr [(49, 9999), (50, 9999), (51, 9999)] i_o r) ∧ (RV i_o r) ∧ (R4a r (x1 + 1)) ∧ (R4c r (x1 + 1))) := by
  have fr_i_o : Fr [(49, 9999), (50, 9999), (51, 9999)] i_o i_o := Fr.rf
  refine T_loop (fun s => BoxM s.1 ∧ (Fr [(49, 9999), (50, 9999), (51, 9999)] i_o s.1) ∧ (0 ≤ s.2 ∧ s.2 ≤ s.1.1 0 17) ∧ (RV i_o s.1) ∧ (R4a s.1 x1) ∧ (R4c s.1 (x1 + 1) ∨ R4c s.1 x1) ∧ (R4d s.1 x1 s.2)) (fun s => (s.1.1 0 17 - s.2).toNat) (by exact ⟨hB_i_o, fr_i_o, v0, v1, v2, v3, v4⟩) (fun s hs => ?_)
  obtain ⟨o, x2⟩ := s
  replace hs : BoxM o ∧ (Fr [(49, 9999), (50, 9999), (51, 9999)] i_o o) ∧ (0 ≤ x2 ∧ x2 ≤ o.1 0 17) ∧ (RV i_o o) ∧ (R4a o x1) ∧ (R4c o (x1 + 1) ∨ R4c o x1) ∧ (R4d o x1 x2) := hs
  obtain ⟨hB_o, fr_o, w0, w1, w2, w3, w4⟩ := hs
  have g0_17_i := bM_0_17 hB_i_o
  have g0_17_o : o.1 0 17 = i_o.1 0 17 := fr_o.1 0 17 rfl
  have g0_27_i := bM_0_27 hB_i_o
  have g0_27_o : o.1 0 27 = i_o.1 0 27 := fr_o.1 0 27 rfl
  have s9 : S49 i_o o := S49.of fr_o (fun _ => rfl) (fun _ => rfl) (fun _ => rfl) (fun _ => rfl) (fun _ => rfl) rfl rfl
  have kx9 : KX i_o := by assumption
  have kxo : KX o := kx9.cg s9
  show T (l_X12_cheapest_37 x1 o x2) _
  unfold l_X12_cheapest_37
  refine T_qLt ⟨by omega, by omega⟩ ⟨by omega, by omega⟩ (fun h2 => ?_) (fun h2 => ?_)
  ·
    refine T_qIn ⟨by omega, by omega⟩ ?_
    refine T_qNm (fun n25 e_n25 => ?_)
    have b_n25 : 0 ≤ n25 ∧ n25 ≤ 1 := by rw [e_n25]; exact bM_47 hB_o _
    have un25 : n25 = 0 → ¬ UN o x1 := fun e q => q.1.2.2 (by rw [← e_n25]; exact e)
    have pn25 : ¬ n25 = 0 → PN o x1 := fun e => ⟨by omega, by omega, by rw [← e_n25]; exact e⟩
    refine T_qEq ⟨by omega, by omega⟩ ⟨by decide, by decide⟩ (fun h3 => ?_) (fun h3 => ?_)
    ·
      refine T_some ?_
      show BoxM o ∧ (Fr [(49, 9999), (50, 9999), (51, 9999)] i_o o) ∧ (RV i_o o) ∧ (R4a o (x1 + 1)) ∧ (R4c o (x1 + 1))
      exact ⟨hB_o, fr_o, (by first | assumption | exact RV_0 nv2 | exact RV.tr s9 w1 | exact RV.tr s9 w3 | exact RV.tr s9.sy rv9), (by first | assumption | exact R4a_0 | exact R4a_skip w2 (un25 (by omega)) | exact R4a_skip w2 (un27 (by omega)) | exact R4a_s w2 (by have q9 := w4; rwa [show x2 = o.1 0 17 by omega] at q9) | (have q9 := w2; rwa [show x1 = o.1 0 27 by omega] at q9)), (by first | assumption | exact R4c_0 nv2 | exact w3.elim id (fun q => R4c_up q (by omega)) | (have q9 := w3; rwa [show x1 = o.1 0 27 by omega] at q9))⟩
    ·
      refine T_qIn ⟨by omega, by omega⟩ ?_
      refine T_qNm (fun n27 e_n27 => ?_)
      have b_n27 : -9 ≤ n27 ∧ n27 ≤ 31 := by rw [e_n27]; exact bM_46 hB_o _
      have un27 : ¬ n27 < 0 → ¬ UN o x1 := fun e q => e (by rw [e_n27]; exact q.2)
      have ux27 : n27 < 0 → UN o x1 := fun e => ⟨pn25 (by omega), by rw [← e_n27]; exact e⟩
      refine T_qLt ⟨by omega, by omega⟩ ⟨by decide, by decide⟩ (fun h4 => ?_) (fun h4 => ?_)
      ·
        refine T_qB (t_X12_walk o x1 x2 hB_o (by omega) (by omega)) (fun r28 hc_r28 hp5 => ?_)
        replace hp5 : (0 ≤ r28 ∧ r28 ≤ 14) := hp5
        have w28 : r28 = WF o x1 x2 := (WF_eq hc_r28 (by omega)).symm
        refine T_qB2 (t_X12_relax o x2 r28 x1 (-9) hB_o (by omega) (by omega) (by omega) (by omega)) (fun r30 o32 hc_r30 hp6 => ?_)
        replace hp6 : BoxM o32 ∧ (Fr [(49, 9999), (50, 9999), (51, 9999)] o o32) ∧ (RP o o32 r30 x2 r28 x1 (-9)) := hp6
        obtain ⟨hB_o32, fc_o32, hp6⟩ := hp6
        have fr_o32 : Fr [(49, 9999), (50, 9999), (51, 9999)] i_o o32 := Fr.tr fr_o fc_o32 rfl
        have g0_17_o32 : o32.1 0 17 = o.1 0 17 := fc_o32.1 0 17 rfl
        have g0_27_o32 : o32.1 0 27 = o.1 0 27 := fc_o32.1 0 27 rfl
        have rp30 : RP o o32 r30 x2 r28 x1 (-9) := hp6
        obtain ⟨sr30, le30⟩ := RP_le rp30
        obtain ⟨rv30, rd30⟩ := RV_root kx9 s9 w1 (by omega) (ux27 (by omega)) w28 rp30
        have ra30 : R4a o32 x1 := R4a.dn sr30 le30 w2
        have rc30 : R4c o32 (x1 + 1) ∨ R4c o32 x1 := Or.inl (Or.inl ⟨x1, by omega, (UN.cg sr30 x1).mpr (ux27 (by omega))⟩)
        have rd31 : R4d o32 x1 (x2 + 1) := R4d_s sr30 le30 w4 rd30
        refine T_some ?_
        show (BoxM o32 ∧ (Fr [(49, 9999), (50, 9999), (51, 9999)] i_o o32) ∧ (0 ≤ (x2 + 1) ∧ (x2 + 1) ≤ o32.1 0 17) ∧ (RV i_o o32) ∧ (R4a o32 x1) ∧ (R4c o32 (x1 + 1) ∨ R4c o32 x1) ∧ (R4d o32 x1 (x2 + 1))) ∧ (o32.1 0 17 - (x2 + 1)).toNat < (o.1 0 17 - x2).toNat
        exact ⟨⟨hB_o32, fr_o32, (by omega), (by first | assumption | exact RV_0 nv2 | exact RV.tr s9 w1 | exact RV.tr s9 w3 | exact RV.tr s9.sy rv9), (by first | assumption | exact R4a_0 | exact R4a_skip w2 (un25 (by omega)) | exact R4a_skip w2 (un27 (by omega)) | exact R4a_s w2 (by have q9 := w4; rwa [show x2 = o.1 0 17 by omega] at q9) | (have q9 := w2; rwa [show x1 = o.1 0 27 by omega] at q9)), (by first | assumption | exact Or.inr w3), (by first | assumption | exact R4d_0)⟩, by omega⟩
      ·
        refine T_some ?_
        show BoxM o ∧ (Fr [(49, 9999), (50, 9999), (51, 9999)] i_o o) ∧ (RV i_o o) ∧ (R4a o (x1 + 1)) ∧ (R4c o (x1 + 1))
        exact ⟨hB_o, fr_o, (by first | assumption | exact RV_0 nv2 | exact RV.tr s9 w1 | exact RV.tr s9 w3 | exact RV.tr s9.sy rv9), (by first | assumption | exact R4a_0 | exact R4a_skip w2 (un25 (by omega)) | exact R4a_skip w2 (un27 (by omega)) | exact R4a_s w2 (by have q9 := w4; rwa [show x2 = o.1 0 17 by omega] at q9) | (have q9 := w2; rwa [show x1 = o.1 0 27 by omega] at q9)), (by first | assumption | exact R4c_0 nv2 | exact w3.elim id (fun q => R4c_up q (by omega)) | (have q9 := w3; rwa [show x1 = o.1 0 27 by omega] at q9))⟩
  ·
    refine T_some ?_
    show BoxM o ∧ (Fr [(49, 9999), (50, 9999), (51, 9999)] i_o o) ∧ (RV i_o o) ∧ (R4a o (x1 + 1)) ∧ (R4c o (x1 + 1))
    exact ⟨hB_o, fr_o, (by first | assumption | exact RV_0 nv2 | exact RV.tr s9 w1 | exact RV.tr s9 w3 | exact RV.tr s9.sy rv9), (by first | assumption | exact R4a_0 | exact R4a_skip w2 (un25 (by omega)) | exact R4a_skip w2 (un27 (by omega)) | exact R4a_s w2 (by have q9 := w4; rwa [show x2 = o.1 0 17 by omega] at q9) | (have q9 := w2; rwa [show x1 = o.1 0 27 by omega] at q9)), (by first | assumption | exact R4c_0 nv2 | exact w3.elim id (fun q => R4c_up q (by omega)) | (have q9 := w3; rwa [show x1 = o.1 0 27 by omega] at q9))⟩
set_option maxRecDepth 20000 in
set_option maxHeartbeats 4000000 in
theorem tl_X12_cheapest_225 (o : OO) (i_x2 : Int) (i_x3 : Int) (hB_o : BoxM o) (v0 : 0 ≤ i_x3 ∧ i_x3 ≤ o.1 0 17) (v1 : (i_x2 = -9 ∨ (0 ≤ i_x2 ∧ i_x2 < o.1 0 17 ∧ 0 < o.1 48 i_x2.toNat ∧ o.1 49 i_x2.toNat < 100000000))) : T (loopW (fun s => l_X12_cheapest_225 o s.1 s.2) (i_x2, i_x3)) (fun r => ((r = -9 ∨ (0 ≤ r ∧ r < o.1 0 17 ∧ 0 < o.1 48 r.toNat ∧ o.1 49 r.toNat < 100000000)))) := by
  refine T_loop (fun s => (0 ≤ s.2 ∧ s.2 ≤ o.1 0 17) ∧ ((s.1 = -9 ∨ (0 ≤ s.1 ∧ s.1 < o.1 0 17 ∧ 0 < o.1 48 s.1.toNat ∧ o.1 49 s.1.toNat < 100000000)))) (fun s => (o.1 0 17 - s.2).toNat) (by exact ⟨v0, v1⟩) (fun s hs => ?_)
  obtain ⟨x2, x3⟩ := s
  replace hs : (0 ≤ x3 ∧ x3 ≤ o.1 0 17) ∧ ((x2 = -9 ∨ (0 ≤ x2 ∧ x2 < o.1 0 17 ∧ 0 < o.1 48 x2.toNat ∧ o.1 49 x2.toNat < 100000000))) := hs
  obtain ⟨w0, w1⟩ := hs
  have g0_17_o := bM_0_17 hB_o
  have g0_27_o := bM_0_27 hB_o
  show T (l_X12_cheapest_225 o x2 x3) _
  unfold l_X12_cheapest_225
  refine T_qLt ⟨by omega, by omega⟩ ⟨by omega, by omega⟩ (fun h7 => ?_) (fun h7 => ?_)
  ·
    refine T_qIn ⟨by omega, by omega⟩ ?_
    refine T_qNm (fun n2 e_n2 => ?_)
    have b_n2 : -40 ≤ n2 ∧ n2 ≤ 20 := by rw [e_n2]; exact bM_48 hB_o _
    refine T_qLt ⟨by decide, by decide⟩ ⟨by omega, by omega⟩ (fun h8 => ?_) (fun h8 => ?_)
    ·
      refine T_qIn ⟨by omega, by omega⟩ ?_
      refine T_qNm (fun n4 e_n4 => ?_)
      have b_n4 : -2147483648 ≤ n4 ∧ n4 ≤ 2147483647 := by rw [e_n4]; exact bM_49 hB_o _
      refine T_qLt ⟨by omega, by omega⟩ ⟨by decide, by decide⟩ (fun h9 => ?_) (fun h9 => ?_)
      ·
        refine T_qLt ⟨by omega, by omega⟩ ⟨by decide, by decide⟩ (fun h10 => ?_) (fun h10 => ?_)
        ·
          unfold b_X12_cheapest_273
          unfold b_X12_cheapest_278
          refine T_some ?_
          show ((0 ≤ (x3 + 1) ∧ (x3 + 1) ≤ o.1 0 17) ∧ ((x3 = -9 ∨ (0 ≤ x3 ∧ x3 < o.1 0 17 ∧ 0 < o.1 48 x3.toNat ∧ o.1 49 x3.toNat < 100000000)))) ∧ (o.1 0 17 - (x3 + 1)).toNat < (o.1 0 17 - x3).toNat
          exact ⟨⟨(by omega), (by omega)⟩, by omega⟩
        ·
          refine T_qIn ⟨by omega, by omega⟩ ?_
          refine T_qNm (fun n6 e_n6 => ?_)
          have b_n6 : -2147483648 ≤ n6 ∧ n6 ≤ 2147483647 := by rw [e_n6]; exact bM_49 hB_o _
          refine T_qIn ⟨by omega, by omega⟩ ?_
          refine T_qNm (fun n8 e_n8 => ?_)
          have b_n8 : -2147483648 ≤ n8 ∧ n8 ≤ 2147483647 := by rw [e_n8]; exact bM_49 hB_o _
          refine T_qLt ⟨by omega, by omega⟩ ⟨by omega, by omega⟩ (fun h11 => ?_) (fun h11 => ?_)
          ·
            unfold b_X12_cheapest_273
            unfold b_X12_cheapest_278
            refine T_some ?_
            show ((0 ≤ (x3 + 1) ∧ (x3 + 1) ≤ o.1 0 17) ∧ ((x3 = -9 ∨ (0 ≤ x3 ∧ x3 < o.1 0 17 ∧ 0 < o.1 48 x3.toNat ∧ o.1 49 x3.toNat < 100000000)))) ∧ (o.1 0 17 - (x3 + 1)).toNat < (o.1 0 17 - x3).toNat
            exact ⟨⟨(by omega), (by omega)⟩, by omega⟩
          ·
            unfold b_X12_cheapest_277
            unfold b_X12_cheapest_278
            refine T_some ?_
            show ((0 ≤ (x3 + 1) ∧ (x3 + 1) ≤ o.1 0 17) ∧ ((x2 = -9 ∨ (0 ≤ x2 ∧ x2 < o.1 0 17 ∧ 0 < o.1 48 x2.toNat ∧ o.1 49 x2.toNat < 100000000)))) ∧ (o.1 0 17 - (x3 + 1)).toNat < (o.1 0 17 - x3).toNat
            exact ⟨⟨(by omega), (by omega)⟩, by omega⟩
      ·
        unfold b_X12_cheapest_277
        unfold b_X12_cheapest_278
        refine T_some ?_
        show ((0 ≤ (x3 + 1) ∧ (x3 + 1) ≤ o.1 0 17) ∧ ((x2 = -9 ∨ (0 ≤ x2 ∧ x2 < o.1 0 17 ∧ 0 < o.1 48 x2.toNat ∧ o.1 49 x2.toNat < 100000000)))) ∧ (o.1 0 17 - (x3 + 1)).toNat < (o.1 0 17 - x3).toNat
        exact ⟨⟨(by omega), (by omega)⟩, by omega⟩
    ·
      unfold b_X12_cheapest_277
      unfold b_X12_cheapest_278
      refine T_some ?_
      show ((0 ≤ (x3 + 1) ∧ (x3 + 1) ≤ o.1 0 17) ∧ ((x2 = -9 ∨ (0 ≤ x2 ∧ x2 < o.1 0 17 ∧ 0 < o.1 48 x2.toNat ∧ o.1 49 x2.toNat < 100000000)))) ∧ (o.1 0 17 - (x3 + 1)).toNat < (o.1 0 17 - x3).toNat
      exact ⟨⟨(by omega), (by omega)⟩, by omega⟩
  ·
    refine T_some ?_
    show ((x2 = -9 ∨ (0 ≤ x2 ∧ x2 < o.1 0 17 ∧ 0 < o.1 48 x2.toNat ∧ o.1 49 x2.toNat < 100000000)))
    exact (by omega)
set_option maxRecDepth 20000 in
set_option maxHeartbeats 4000000 in
theorem tl_X12_cheapest_27  (i_o : OO) (i_x1 : Int) (hB_i_o : BoxM i_o) (k0 : KX i_o) (v0 : 0 ≤ i_x1 ∧ i_x1 ≤ i_o.1 0 27) (v1 : RV i_o i_o) (v2 : R4a i_o i_x1) (v3 : R4c i_o i_x1) : T (loopW (fun s => l_X12_cheapest_27 s.1 s.2) (i_o, i_x1)) (fun r => BoxM r ∧ (Fr [(49, 9999), (50, 9999), (51, 9999)] i_o r) ∧ (RV i_o r) ∧ (R4a r (r.1 0 27)) ∧ (R4c r (r.1 0 27))) := by
  have fr_i_o : Fr [(49, 9999), (50, 9999), (51, 9999)] i_o i_o := Fr.rf
  refine T_loop (fun s => BoxM s.1 ∧ (Fr [(49, 9999), (50, 9999), (51, 9999)] i_o s.1) ∧ (0 ≤ s.2 ∧ s.2 ≤ s.1.1 0 27) ∧ (RV i_o s.1) ∧ (R4a s.1 s.2) ∧ (R4c s.1 s.2)) (fun s => (s.1.1 0 27 - s.2).toNat) (by exact ⟨hB_i_o, fr_i_o, v0, v1, v2, v3⟩) (fun s hs => ?_)
  obtain ⟨o, x1⟩ := s
  replace hs : BoxM o ∧ (Fr [(49, 9999), (50, 9999), (51, 9999)] i_o o) ∧ (0 ≤ x1 ∧ x1 ≤ o.1 0 27) ∧ (RV i_o o) ∧ (R4a o x1) ∧ (R4c o x1) := hs
  obtain ⟨hB_o, fr_o, w0, w1, w2, w3⟩ := hs
  have g0_17_i := bM_0_17 hB_i_o
  have g0_17_o : o.1 0 17 = i_o.1 0 17 := fr_o.1 0 17 rfl
  have g0_27_i := bM_0_27 hB_i_o
  have g0_27_o : o.1 0 27 = i_o.1 0 27 := fr_o.1 0 27 rfl
  have s9 : S49 i_o o := S49.of fr_o (fun _ => rfl) (fun _ => rfl) (fun _ => rfl) (fun _ => rfl) (fun _ => rfl) rfl rfl
  have kx9 : KX i_o := by assumption
  have kxo : KX o := kx9.cg s9
  show T (l_X12_cheapest_27 o x1) _
  unfold l_X12_cheapest_27
  refine T_qLt ⟨by omega, by omega⟩ ⟨by omega, by omega⟩ (fun h12 => ?_) (fun h12 => ?_)
  ·
    unfold e_X12_cheapest_37
    refine T_qB (tl_X12_cheapest_37 x1 o 0 hB_o (by assumption) (by omega) (by omega) (by first | assumption | exact RV_0 nv2 | exact RV.tr s9 w1 | exact RV.tr s9 w3 | exact RV.tr s9.sy rv9) (by first | assumption | exact R4a_0 | exact R4a_skip w2 (un25 (by omega)) | exact R4a_skip w2 (un27 (by omega)) | exact R4a_s w2 (by have q9 := w4; rwa [show x2 = o.1 0 17 by omega] at q9) | (have q9 := w2; rwa [show x1 = o.1 0 27 by omega] at q9)) (by first | assumption | exact Or.inr w3) (by first | assumption | exact R4d_0)) (fun r13 hc_r13 hp14 => ?_)
    obtain ⟨o_15, q_o_15⟩ : ∃ q, q = r13 := ⟨_, rfl⟩
    subst q_o_15
    replace hp14 : BoxM o_15 ∧ (Fr [(49, 9999), (50, 9999), (51, 9999)] o o_15) ∧ (RV o o_15) ∧ (R4a o_15 (x1 + 1)) ∧ (R4c o_15 (x1 + 1)) := hp14
    have hps_hp14 := hp14
    obtain ⟨hp14_0, hp14_1, hp14_2, hp14_3, hp14_4⟩ := hps_hp14
    obtain ⟨hB_o_15, fc_o_15, hp14⟩ := hp14
    replace hp14 := hid hp14
    have fr_o_15 : Fr [(49, 9999), (50, 9999), (51, 9999)] i_o o_15 := Fr.tr fr_o fc_o_15 rfl
    have g0_17_o_15 : o_15.1 0 17 = o.1 0 17 := fc_o_15.1 0 17 rfl
    have g0_27_o_15 : o_15.1 0 27 = o.1 0 27 := fc_o_15.1 0 27 rfl
    show T (b_X12_cheapest_84 o_15 x1) _
    have sx9 : S49 o o_15 := S49.of fc_o_15 (fun _ => rfl) (fun _ => rfl) (fun _ => rfl) (fun _ => rfl) (fun _ => rfl) rfl rfl
    have rv9 : RV o o_15 := by assumption
    unfold b_X12_cheapest_84
    refine T_some ?_
    show (BoxM o_15 ∧ (Fr [(49, 9999), (50, 9999), (51, 9999)] i_o o_15) ∧ (0 ≤ (x1 + 1) ∧ (x1 + 1) ≤ o_15.1 0 27) ∧ (RV i_o o_15) ∧ (R4a o_15 (x1 + 1)) ∧ (R4c o_15 (x1 + 1))) ∧ (o_15.1 0 27 - (x1 + 1)).toNat < (o.1 0 27 - x1).toNat
    exact ⟨⟨hB_o_15, fr_o_15, (by omega), (by first | assumption | exact RV_0 nv2 | exact RV.tr s9 w1 | exact RV.tr s9 w3 | exact RV.tr s9.sy rv9), (by first | assumption | exact R4a_0 | exact R4a_skip w2 (un25 (by omega)) | exact R4a_skip w2 (un27 (by omega)) | exact R4a_s w2 (by have q9 := w4; rwa [show x2 = o.1 0 17 by omega] at q9) | (have q9 := w2; rwa [show x1 = o.1 0 27 by omega] at q9)), (by first | assumption | exact R4c_0 nv2 | exact w3.elim id (fun q => R4c_up q (by omega)) | (have q9 := w3; rwa [show x1 = o.1 0 27 by omega] at q9))⟩, by omega⟩
  ·
    refine T_some ?_
    show BoxM o ∧ (Fr [(49, 9999), (50, 9999), (51, 9999)] i_o o) ∧ (RV i_o o) ∧ (R4a o (o.1 0 27)) ∧ (R4c o (o.1 0 27))
    exact ⟨hB_o, fr_o, (by first | assumption | exact RV_0 nv2 | exact RV.tr s9 w1 | exact RV.tr s9 w3 | exact RV.tr s9.sy rv9), (by first | assumption | exact R4a_0 | exact R4a_skip w2 (un25 (by omega)) | exact R4a_skip w2 (un27 (by omega)) | exact R4a_s w2 (by have q9 := w4; rwa [show x2 = o.1 0 17 by omega] at q9) | (have q9 := w2; rwa [show x1 = o.1 0 27 by omega] at q9)), (by first | assumption | exact R4c_0 nv2 | exact w3.elim id (fun q => R4c_up q (by omega)) | (have q9 := w3; rwa [show x1 = o.1 0 27 by omega] at q9))⟩
set_option maxRecDepth 20000 in
set_option maxHeartbeats 4000000 in
theorem tl_X12_cheapest_132 (x2 : Int) (x3 : Int) (i_o : OO) (i_x1 : Int) (i_x4 : Int) (hB_i_o : BoxM i_o) (k0 : KX i_o) (k1 : 0 ≤ x2 ∧ x2 < i_o.1 0 27) (k2 : -9 ≤ x3 ∧ x3 ≤ 31) (k3 : ATX i_o x2 x3) (v0 : 0 ≤ i_x1 ∧ i_x1 ≤ 1) (v1 : 0 ≤ i_x4 ∧ i_x4 ≤ i_o.1 0 17) (v2 : (i_x1 = i_x1 ∧ SR i_o = SR i_o) ∨ (i_x1 = 1 ∧ SR i_o < SR i_o)) (v3 : RV i_o i_o) (v4 : R4a i_o (i_o.1 0 27)) (v5 : R4c i_o (i_o.1 0 27)) (v6 : (0 : Int) = i_x1 → (0 : Int) = i_x1 ∧ (∀ j, i_o.1 49 j = i_o.1 49 j) ∧ FXB i_o x2 i_x4) : T (loopW (fun s => l_X12_cheapest_132 x2 x3 s.1 s.2.1 s.2.2) (i_o, i_x1, i_x4)) (fun r => BoxM r.1 ∧ (Fr [(49, 9999), (50, 9999), (51, 9999)] i_o r.1) ∧ (0 ≤ r.2 ∧ r.2 ≤ 1) ∧ ((r.2 = i_x1 ∧ SR r.1 = SR i_o) ∨ (r.2 = 1 ∧ SR r.1 < SR i_o)) ∧ (RV i_o r.1) ∧ (R4a r.1 (r.1.1 0 27)) ∧ (R4c r.1 (r.1.1 0 27)) ∧ ((0 : Int) = r.2 → (0 : Int) = i_x1 ∧ (∀ j, r.1.1 49 j = i_o.1 49 j) ∧ FXB r.1 x2 (r.1.1 0 17))) := by
  have fr_i_o : Fr [(49, 9999), (50, 9999), (51, 9999)] i_o i_o := Fr.rf
  refine T_loop (fun s => BoxM s.1 ∧ (Fr [(49, 9999), (50, 9999), (51, 9999)] i_o s.1) ∧ (0 ≤ s.2.1 ∧ s.2.1 ≤ 1) ∧ (0 ≤ s.2.2 ∧ s.2.2 ≤ s.1.1 0 17) ∧ ((s.2.1 = i_x1 ∧ SR s.1 = SR i_o) ∨ (s.2.1 = 1 ∧ SR s.1 < SR i_o)) ∧ (RV i_o s.1) ∧ (R4a s.1 (s.1.1 0 27)) ∧ (R4c s.1 (s.1.1 0 27)) ∧ ((0 : Int) = s.2.1 → (0 : Int) = i_x1 ∧ (∀ j, s.1.1 49 j = i_o.1 49 j) ∧ FXB s.1 x2 s.2.2)) (fun s => (s.1.1 0 17 - s.2.2).toNat) (by exact ⟨hB_i_o, fr_i_o, v0, v1, v2, v3, v4, v5, v6⟩) (fun s hs => ?_)
  obtain ⟨o, x1, x4⟩ := s
  replace hs : BoxM o ∧ (Fr [(49, 9999), (50, 9999), (51, 9999)] i_o o) ∧ (0 ≤ x1 ∧ x1 ≤ 1) ∧ (0 ≤ x4 ∧ x4 ≤ o.1 0 17) ∧ ((x1 = i_x1 ∧ SR o = SR i_o) ∨ (x1 = 1 ∧ SR o < SR i_o)) ∧ (RV i_o o) ∧ (R4a o (o.1 0 27)) ∧ (R4c o (o.1 0 27)) ∧ ((0 : Int) = x1 → (0 : Int) = i_x1 ∧ (∀ j, o.1 49 j = i_o.1 49 j) ∧ FXB o x2 x4) := hs
  obtain ⟨hB_o, fr_o, w0, w1, w2, w3, w4, w5, w6⟩ := hs
  have g0_17_i := bM_0_17 hB_i_o
  have g0_17_o : o.1 0 17 = i_o.1 0 17 := fr_o.1 0 17 rfl
  have g0_27_i := bM_0_27 hB_i_o
  have g0_27_o : o.1 0 27 = i_o.1 0 27 := fr_o.1 0 27 rfl
  have s9 : S49 i_o o := S49.of fr_o (fun _ => rfl) (fun _ => rfl) (fun _ => rfl) (fun _ => rfl) (fun _ => rfl) rfl rfl
  have kx9 : KX i_o := by assumption
  have kxo : KX o := kx9.cg s9
  have atx : ATX o x2 x3 := by have q9 : ATX i_o x2 x3 := (by assumption); exact ⟨fun e => (AS.cg s9 x2 x3).mpr (q9.1 e), fun e h q => q9.2 e h ((AS.cg s9 x2 h).mp q)⟩
  show T (l_X12_cheapest_132 x2 x3 o x1 x4) _
  unfold l_X12_cheapest_132
  refine T_qLt ⟨by omega, by omega⟩ ⟨by omega, by omega⟩ (fun h16 => ?_) (fun h16 => ?_)
  ·
    refine T_qLt ⟨by omega, by omega⟩ ⟨by decide, by decide⟩ (fun h17 => ?_) (fun h17 => ?_)
    ·
      refine T_some ?_
      show BoxM o ∧ (Fr [(49, 9999), (50, 9999), (51, 9999)] i_o o) ∧ (0 ≤ x1 ∧ x1 ≤ 1) ∧ ((x1 = i_x1 ∧ SR o = SR i_o) ∨ (x1 = 1 ∧ SR o < SR i_o)) ∧ (RV i_o o) ∧ (R4a o (o.1 0 27)) ∧ (R4c o (o.1 0 27)) ∧ ((0 : Int) = x1 → (0 : Int) = i_x1 ∧ (∀ j, o.1 49 j = i_o.1 49 j) ∧ FXB o x2 (o.1 0 17))
      exact ⟨hB_o, fr_o, (by omega), (by omega), (by first | assumption | exact RV_0 nv2 | exact RV.tr s9 w1 | exact RV.tr s9 w3 | exact RV.tr s9.sy rv9), (by first | assumption | exact R4a_0 | exact R4a_skip w2 (un25 (by omega)) | exact R4a_skip w2 (un27 (by omega)) | exact R4a_s w2 (by have q9 := w4; rwa [show x2 = o.1 0 17 by omega] at q9) | (have q9 := w2; rwa [show x1 = o.1 0 27 by omega] at q9)), (by first | assumption | exact R4c_0 nv2 | exact w3.elim id (fun q => R4c_up q (by omega)) | (have q9 := w3; rwa [show x1 = o.1 0 27 by omega] at q9)), (by first | assumption | exact (fun e => absurd e (by decide)) | exact (fun e => ⟨e, fun _ => rfl, FXB_0⟩) | exact (fun e => ⟨(w6 e).1, (w6 e).2.1, FXB_no (atx.2 (by omega))⟩) | exact (fun e => ⟨(w6 e).1, (w6 e).2.1, FXB_nv (atx.1 (by omega)) (by omega)⟩) | exact (fun e => ⟨(w6 (by omega)).1, (w6 (by omega)).2.1, FXB_s (S49.rf o) (fun _ => rfl) (w6 (by omega)).2.2 (by rw [show x4 = x3 by omega]; exact FX_self (atx.1 (by omega)))⟩) | exact (fun e => ⟨(w6 (by omega)).1, fun j => (sm17 (by omega) j).trans ((w6 (by omega)).2.1 j), FXB_s sr17 (sm17 (by omega)) (w6 (by omega)).2.2 (fx17 (by omega))⟩) | (intro e; have q9 := w6 e; rwa [show x4 = o.1 0 17 by omega] at q9))⟩
    ·
      refine T_qIn ⟨by omega, by omega⟩ ?_
      refine T_qNm (fun n10 e_n10 => ?_)
      have b_n10 : -2147483648 ≤ n10 ∧ n10 ≤ 2147483647 := by rw [e_n10]; exact bM_49 hB_o _
      refine T_qLt ⟨by omega, by omega⟩ ⟨by decide, by decide⟩ (fun h18 => ?_) (fun h18 => ?_)
      ·
        refine T_qEq ⟨by omega, by omega⟩ ⟨by omega, by omega⟩ (fun h19 => ?_) (fun h19 => ?_)
        ·
          unfold b_X12_cheapest_195
          refine T_qEq ⟨by omega, by omega⟩ ⟨by decide, by decide⟩ (fun h20 => ?_) (fun h20 => ?_)
          ·
            unfold b_X12_cheapest_204
            refine T_some ?_
            show (BoxM o ∧ (Fr [(49, 9999), (50, 9999), (51, 9999)] i_o o) ∧ (0 ≤ 0 ∧ 0 ≤ 1) ∧ (0 ≤ (x4 + 1) ∧ (x4 + 1) ≤ o.1 0 17) ∧ ((0 = i_x1 ∧ SR o = SR i_o) ∨ (0 = 1 ∧ SR o < SR i_o)) ∧ (RV i_o o) ∧ (R4a o (o.1 0 27)) ∧ (R4c o (o.1 0 27)) ∧ ((0 : Int) = 0 → (0 : Int) = i_x1 ∧ (∀ j, o.1 49 j = i_o.1 49 j) ∧ FXB o x2 (x4 + 1))) ∧ (o.1 0 17 - (x4 + 1)).toNat < (o.1 0 17 - x4).toNat
            exact ⟨⟨hB_o, fr_o, (by omega), (by omega), (by omega), (by first | assumption | exact RV_0 nv2 | exact RV.tr s9 w1 | exact RV.tr s9 w3 | exact RV.tr s9.sy rv9), (by first | assumption | exact R4a_0 | exact R4a_skip w2 (un25 (by omega)) | exact R4a_skip w2 (un27 (by omega)) | exact R4a_s w2 (by have q9 := w4; rwa [show x2 = o.1 0 17 by omega] at q9) | (have q9 := w2; rwa [show x1 = o.1 0 27 by omega] at q9)), (by first | assumption | exact R4c_0 nv2 | exact w3.elim id (fun q => R4c_up q (by omega)) | (have q9 := w3; rwa [show x1 = o.1 0 27 by omega] at q9)), (by first | assumption | exact (fun e => absurd e (by decide)) | exact (fun e => ⟨e, fun _ => rfl, FXB_0⟩) | exact (fun e => ⟨(w6 e).1, (w6 e).2.1, FXB_no (atx.2 (by omega))⟩) | exact (fun e => ⟨(w6 e).1, (w6 e).2.1, FXB_nv (atx.1 (by omega)) (by omega)⟩) | exact (fun e => ⟨(w6 (by omega)).1, (w6 (by omega)).2.1, FXB_s (S49.rf o) (fun _ => rfl) (w6 (by omega)).2.2 (by rw [show x4 = x3 by omega]; exact FX_self (atx.1 (by omega)))⟩) | exact (fun e => ⟨(w6 (by omega)).1, fun j => (sm17 (by omega) j).trans ((w6 (by omega)).2.1 j), FXB_s sr17 (sm17 (by omega)) (w6 (by omega)).2.2 (fx17 (by omega))⟩) | (intro e; have q9 := w6 e; rwa [show x4 = o.1 0 17 by omega] at q9))⟩, by omega⟩
          ·
            unfold b_X12_cheapest_199
            unfold b_X12_cheapest_204
            refine T_some ?_
            show (BoxM o ∧ (Fr [(49, 9999), (50, 9999), (51, 9999)] i_o o) ∧ (0 ≤ 1 ∧ 1 ≤ 1) ∧ (0 ≤ (x4 + 1) ∧ (x4 + 1) ≤ o.1 0 17) ∧ ((1 = i_x1 ∧ SR o = SR i_o) ∨ (1 = 1 ∧ SR o < SR i_o)) ∧ (RV i_o o) ∧ (R4a o (o.1 0 27)) ∧ (R4c o (o.1 0 27)) ∧ ((0 : Int) = 1 → (0 : Int) = i_x1 ∧ (∀ j, o.1 49 j = i_o.1 49 j) ∧ FXB o x2 (x4 + 1))) ∧ (o.1 0 17 - (x4 + 1)).toNat < (o.1 0 17 - x4).toNat
            exact ⟨⟨hB_o, fr_o, (by omega), (by omega), (by omega), (by first | assumption | exact RV_0 nv2 | exact RV.tr s9 w1 | exact RV.tr s9 w3 | exact RV.tr s9.sy rv9), (by first | assumption | exact R4a_0 | exact R4a_skip w2 (un25 (by omega)) | exact R4a_skip w2 (un27 (by omega)) | exact R4a_s w2 (by have q9 := w4; rwa [show x2 = o.1 0 17 by omega] at q9) | (have q9 := w2; rwa [show x1 = o.1 0 27 by omega] at q9)), (by first | assumption | exact R4c_0 nv2 | exact w3.elim id (fun q => R4c_up q (by omega)) | (have q9 := w3; rwa [show x1 = o.1 0 27 by omega] at q9)), (by first | assumption | exact (fun e => absurd e (by decide)) | exact (fun e => ⟨e, fun _ => rfl, FXB_0⟩) | exact (fun e => ⟨(w6 e).1, (w6 e).2.1, FXB_no (atx.2 (by omega))⟩) | exact (fun e => ⟨(w6 e).1, (w6 e).2.1, FXB_nv (atx.1 (by omega)) (by omega)⟩) | exact (fun e => ⟨(w6 (by omega)).1, (w6 (by omega)).2.1, FXB_s (S49.rf o) (fun _ => rfl) (w6 (by omega)).2.2 (by rw [show x4 = x3 by omega]; exact FX_self (atx.1 (by omega)))⟩) | exact (fun e => ⟨(w6 (by omega)).1, fun j => (sm17 (by omega) j).trans ((w6 (by omega)).2.1 j), FXB_s sr17 (sm17 (by omega)) (w6 (by omega)).2.2 (fx17 (by omega))⟩) | (intro e; have q9 := w6 e; rwa [show x4 = o.1 0 17 by omega] at q9))⟩, by omega⟩
        ·
          refine T_qIn ⟨by omega, by omega⟩ ?_
          refine T_qNm (fun n12 e_n12 => ?_)
          have b_n12 : -2147483648 ≤ n12 ∧ n12 ≤ 2147483647 := by rw [e_n12]; exact bM_49 hB_o _
          have as12 : AS o x2 x3 := atx.1 (by omega)
          have bd12 := RV_bd kx9 s9 w3 (KX_AL kx9 s9 as12) (show o.1 49 x3.toNat < 100000000 by omega)
          refine T_qB (t_X12_walk o x2 x3 hB_o (by omega) (by omega)) (fun r13 hc_r13 hp21 => ?_)
          replace hp21 : (0 ≤ r13 ∧ r13 ≤ 14) := hp21
          have w13 : WF o x2 x3 = r13 := WF_eq hc_r13 (by omega)
          refine T_qB (t_X12_walk o x2 x4 hB_o (by omega) (by omega)) (fun r15 hc_r15 hp22 => ?_)
          replace hp22 : (0 ≤ r15 ∧ r15 ≤ 14) := hp22
          have w15 : WF o x2 x4 = r15 := WF_eq hc_r15 (by omega)
          refine T_qB2 (t_X12_relax o x4 ((n12 - r13) + r15) x2 x3 hB_o (by omega) (by omega) (by omega) (by omega)) (fun r17 o19 hc_r17 hp23 => ?_)
          replace hp23 : BoxM o19 ∧ (Fr [(49, 9999), (50, 9999), (51, 9999)] o o19) ∧ (RP o o19 r17 x4 ((n12 - r13) + r15) x2 x3) := hp23
          obtain ⟨hB_o19, fc_o19, hp23⟩ := hp23
          have fr_o19 : Fr [(49, 9999), (50, 9999), (51, 9999)] i_o o19 := Fr.tr fr_o fc_o19 rfl
          have g0_17_o19 : o19.1 0 17 = o.1 0 17 := fc_o19.1 0 17 rfl
          have g0_27_o19 : o19.1 0 27 = o.1 0 27 := fc_o19.1 0 27 rfl
          have rp17 : RP o o19 r17 x4 ((n12 - r13) + r15) x2 x3 := hp23
          obtain ⟨sr17, le17⟩ := RP_le rp17
          have rs17 := RP_SR (by omega) rp17
          obtain ⟨rv17, rc17, fx17⟩ := RV_in kx9 s9 w3 (by omega) as12 (show o.1 49 x3.toNat < 100000000 by omega) (by omega) (by omega) w5 w4 rp17
          have ra17 : R4a o19 (o19.1 0 27) := by rw [sr17.2.2.2.2.2.2]; exact R4a.dn sr17 le17 w4
          have sm17 : r17 = 0 → ∀ j, o19.1 49 j = o.1 49 j := fun e j => rp17.elim (fun q => by rw [q.2.1]) (fun q => by have := q.1; omega)
          refine T_qEq ⟨by omega, by omega⟩ ⟨by decide, by decide⟩ (fun h24 => ?_) (fun h24 => ?_)
          ·
            unfold b_X12_cheapest_195
            refine T_qEq ⟨by omega, by omega⟩ ⟨by decide, by decide⟩ (fun h25 => ?_) (fun h25 => ?_)
            ·
              unfold b_X12_cheapest_204
              refine T_some ?_
              show (BoxM o19 ∧ (Fr [(49, 9999), (50, 9999), (51, 9999)] i_o o19) ∧ (0 ≤ 0 ∧ 0 ≤ 1) ∧ (0 ≤ (x4 + 1) ∧ (x4 + 1) ≤ o19.1 0 17) ∧ ((0 = i_x1 ∧ SR o19 = SR i_o) ∨ (0 = 1 ∧ SR o19 < SR i_o)) ∧ (RV i_o o19) ∧ (R4a o19 (o19.1 0 27)) ∧ (R4c o19 (o19.1 0 27)) ∧ ((0 : Int) = 0 → (0 : Int) = i_x1 ∧ (∀ j, o19.1 49 j = i_o.1 49 j) ∧ FXB o19 x2 (x4 + 1))) ∧ (o19.1 0 17 - (x4 + 1)).toNat < (o.1 0 17 - x4).toNat
              exact ⟨⟨hB_o19, fr_o19, (by omega), (by omega), (by omega), (by first | assumption | exact RV_0 nv2 | exact RV.tr s9 w1 | exact RV.tr s9 w3 | exact RV.tr s9.sy rv9), (by first | assumption | exact R4a_0 | exact R4a_skip w2 (un25 (by omega)) | exact R4a_skip w2 (un27 (by omega)) | exact R4a_s w2 (by have q9 := w4; rwa [show x2 = o.1 0 17 by omega] at q9) | (have q9 := w2; rwa [show x1 = o.1 0 27 by omega] at q9)), (by first | assumption | exact R4c_0 nv2 | exact w3.elim id (fun q => R4c_up q (by omega)) | (have q9 := w3; rwa [show x1 = o.1 0 27 by omega] at q9)), (by first | assumption | exact (fun e => absurd e (by decide)) | exact (fun e => ⟨e, fun _ => rfl, FXB_0⟩) | exact (fun e => ⟨(w6 e).1, (w6 e).2.1, FXB_no (atx.2 (by omega))⟩) | exact (fun e => ⟨(w6 e).1, (w6 e).2.1, FXB_nv (atx.1 (by omega)) (by omega)⟩) | exact (fun e => ⟨(w6 (by omega)).1, (w6 (by omega)).2.1, FXB_s (S49.rf o) (fun _ => rfl) (w6 (by omega)).2.2 (by rw [show x4 = x3 by omega]; exact FX_self (atx.1 (by omega)))⟩) | exact (fun e => ⟨(w6 (by omega)).1, fun j => (sm17 (by omega) j).trans ((w6 (by omega)).2.1 j), FXB_s sr17 (sm17 (by omega)) (w6 (by omega)).2.2 (fx17 (by omega))⟩) | (intro e; have q9 := w6 e; rwa [show x4 = o.1 0 17 by omega] at q9))⟩, by omega⟩
            ·
              unfold b_X12_cheapest_199
              unfold b_X12_cheapest_204
              refine T_some ?_
              show (BoxM o19 ∧ (Fr [(49, 9999), (50, 9999), (51, 9999)] i_o o19) ∧ (0 ≤ 1 ∧ 1 ≤ 1) ∧ (0 ≤ (x4 + 1) ∧ (x4 + 1) ≤ o19.1 0 17) ∧ ((1 = i_x1 ∧ SR o19 = SR i_o) ∨ (1 = 1 ∧ SR o19 < SR i_o)) ∧ (RV i_o o19) ∧ (R4a o19 (o19.1 0 27)) ∧ (R4c o19 (o19.1 0 27)) ∧ ((0 : Int) = 1 → (0 : Int) = i_x1 ∧ (∀ j, o19.1 49 j = i_o.1 49 j) ∧ FXB o19 x2 (x4 + 1))) ∧ (o19.1 0 17 - (x4 + 1)).toNat < (o.1 0 17 - x4).toNat
              exact ⟨⟨hB_o19, fr_o19, (by omega), (by omega), (by omega), (by first | assumption | exact RV_0 nv2 | exact RV.tr s9 w1 | exact RV.tr s9 w3 | exact RV.tr s9.sy rv9), (by first | assumption | exact R4a_0 | exact R4a_skip w2 (un25 (by omega)) | exact R4a_skip w2 (un27 (by omega)) | exact R4a_s w2 (by have q9 := w4; rwa [show x2 = o.1 0 17 by omega] at q9) | (have q9 := w2; rwa [show x1 = o.1 0 27 by omega] at q9)), (by first | assumption | exact R4c_0 nv2 | exact w3.elim id (fun q => R4c_up q (by omega)) | (have q9 := w3; rwa [show x1 = o.1 0 27 by omega] at q9)), (by first | assumption | exact (fun e => absurd e (by decide)) | exact (fun e => ⟨e, fun _ => rfl, FXB_0⟩) | exact (fun e => ⟨(w6 e).1, (w6 e).2.1, FXB_no (atx.2 (by omega))⟩) | exact (fun e => ⟨(w6 e).1, (w6 e).2.1, FXB_nv (atx.1 (by omega)) (by omega)⟩) | exact (fun e => ⟨(w6 (by omega)).1, (w6 (by omega)).2.1, FXB_s (S49.rf o) (fun _ => rfl) (w6 (by omega)).2.2 (by rw [show x4 = x3 by omega]; exact FX_self (atx.1 (by omega)))⟩) | exact (fun e => ⟨(w6 (by omega)).1, fun j => (sm17 (by omega) j).trans ((w6 (by omega)).2.1 j), FXB_s sr17 (sm17 (by omega)) (w6 (by omega)).2.2 (fx17 (by omega))⟩) | (intro e; have q9 := w6 e; rwa [show x4 = o.1 0 17 by omega] at q9))⟩, by omega⟩
          ·
            unfold b_X12_cheapest_199
            unfold b_X12_cheapest_204
            refine T_some ?_
            show (BoxM o19 ∧ (Fr [(49, 9999), (50, 9999), (51, 9999)] i_o o19) ∧ (0 ≤ 1 ∧ 1 ≤ 1) ∧ (0 ≤ (x4 + 1) ∧ (x4 + 1) ≤ o19.1 0 17) ∧ ((1 = i_x1 ∧ SR o19 = SR i_o) ∨ (1 = 1 ∧ SR o19 < SR i_o)) ∧ (RV i_o o19) ∧ (R4a o19 (o19.1 0 27)) ∧ (R4c o19 (o19.1 0 27)) ∧ ((0 : Int) = 1 → (0 : Int) = i_x1 ∧ (∀ j, o19.1 49 j = i_o.1 49 j) ∧ FXB o19 x2 (x4 + 1))) ∧ (o19.1 0 17 - (x4 + 1)).toNat < (o.1 0 17 - x4).toNat
            exact ⟨⟨hB_o19, fr_o19, (by omega), (by omega), (by omega), (by first | assumption | exact RV_0 nv2 | exact RV.tr s9 w1 | exact RV.tr s9 w3 | exact RV.tr s9.sy rv9), (by first | assumption | exact R4a_0 | exact R4a_skip w2 (un25 (by omega)) | exact R4a_skip w2 (un27 (by omega)) | exact R4a_s w2 (by have q9 := w4; rwa [show x2 = o.1 0 17 by omega] at q9) | (have q9 := w2; rwa [show x1 = o.1 0 27 by omega] at q9)), (by first | assumption | exact R4c_0 nv2 | exact w3.elim id (fun q => R4c_up q (by omega)) | (have q9 := w3; rwa [show x1 = o.1 0 27 by omega] at q9)), (by first | assumption | exact (fun e => absurd e (by decide)) | exact (fun e => ⟨e, fun _ => rfl, FXB_0⟩) | exact (fun e => ⟨(w6 e).1, (w6 e).2.1, FXB_no (atx.2 (by omega))⟩) | exact (fun e => ⟨(w6 e).1, (w6 e).2.1, FXB_nv (atx.1 (by omega)) (by omega)⟩) | exact (fun e => ⟨(w6 (by omega)).1, (w6 (by omega)).2.1, FXB_s (S49.rf o) (fun _ => rfl) (w6 (by omega)).2.2 (by rw [show x4 = x3 by omega]; exact FX_self (atx.1 (by omega)))⟩) | exact (fun e => ⟨(w6 (by omega)).1, fun j => (sm17 (by omega) j).trans ((w6 (by omega)).2.1 j), FXB_s sr17 (sm17 (by omega)) (w6 (by omega)).2.2 (fx17 (by omega))⟩) | (intro e; have q9 := w6 e; rwa [show x4 = o.1 0 17 by omega] at q9))⟩, by omega⟩
      ·
        refine T_some ?_
        show BoxM o ∧ (Fr [(49, 9999), (50, 9999), (51, 9999)] i_o o) ∧ (0 ≤ x1 ∧ x1 ≤ 1) ∧ ((x1 = i_x1 ∧ SR o = SR i_o) ∨ (x1 = 1 ∧ SR o < SR i_o)) ∧ (RV i_o o) ∧ (R4a o (o.1 0 27)) ∧ (R4c o (o.1 0 27)) ∧ ((0 : Int) = x1 → (0 : Int) = i_x1 ∧ (∀ j, o.1 49 j = i_o.1 49 j) ∧ FXB o x2 (o.1 0 17))
        exact ⟨hB_o, fr_o, (by omega), (by omega), (by first | assumption | exact RV_0 nv2 | exact RV.tr s9 w1 | exact RV.tr s9 w3 | exact RV.tr s9.sy rv9), (by first | assumption | exact R4a_0 | exact R4a_skip w2 (un25 (by omega)) | exact R4a_skip w2 (un27 (by omega)) | exact R4a_s w2 (by have q9 := w4; rwa [show x2 = o.1 0 17 by omega] at q9) | (have q9 := w2; rwa [show x1 = o.1 0 27 by omega] at q9)), (by first | assumption | exact R4c_0 nv2 | exact w3.elim id (fun q => R4c_up q (by omega)) | (have q9 := w3; rwa [show x1 = o.1 0 27 by omega] at q9)), (by first | assumption | exact (fun e => absurd e (by decide)) | exact (fun e => ⟨e, fun _ => rfl, FXB_0⟩) | exact (fun e => ⟨(w6 e).1, (w6 e).2.1, FXB_no (atx.2 (by omega))⟩) | exact (fun e => ⟨(w6 e).1, (w6 e).2.1, FXB_nv (atx.1 (by omega)) (by omega)⟩) | exact (fun e => ⟨(w6 (by omega)).1, (w6 (by omega)).2.1, FXB_s (S49.rf o) (fun _ => rfl) (w6 (by omega)).2.2 (by rw [show x4 = x3 by omega]; exact FX_self (atx.1 (by omega)))⟩) | exact (fun e => ⟨(w6 (by omega)).1, fun j => (sm17 (by omega) j).trans ((w6 (by omega)).2.1 j), FXB_s sr17 (sm17 (by omega)) (w6 (by omega)).2.2 (fx17 (by omega))⟩) | (intro e; have q9 := w6 e; rwa [show x4 = o.1 0 17 by omega] at q9))⟩
  ·
    refine T_some ?_
    show BoxM o ∧ (Fr [(49, 9999), (50, 9999), (51, 9999)] i_o o) ∧ (0 ≤ x1 ∧ x1 ≤ 1) ∧ ((x1 = i_x1 ∧ SR o = SR i_o) ∨ (x1 = 1 ∧ SR o < SR i_o)) ∧ (RV i_o o) ∧ (R4a o (o.1 0 27)) ∧ (R4c o (o.1 0 27)) ∧ ((0 : Int) = x1 → (0 : Int) = i_x1 ∧ (∀ j, o.1 49 j = i_o.1 49 j) ∧ FXB o x2 (o.1 0 17))
    exact ⟨hB_o, fr_o, (by omega), (by omega), (by first | assumption | exact RV_0 nv2 | exact RV.tr s9 w1 | exact RV.tr s9 w3 | exact RV.tr s9.sy rv9), (by first | assumption | exact R4a_0 | exact R4a_skip w2 (un25 (by omega)) | exact R4a_skip w2 (un27 (by omega)) | exact R4a_s w2 (by have q9 := w4; rwa [show x2 = o.1 0 17 by omega] at q9) | (have q9 := w2; rwa [show x1 = o.1 0 27 by omega] at q9)), (by first | assumption | exact R4c_0 nv2 | exact w3.elim id (fun q => R4c_up q (by omega)) | (have q9 := w3; rwa [show x1 = o.1 0 27 by omega] at q9)), (by first | assumption | exact (fun e => absurd e (by decide)) | exact (fun e => ⟨e, fun _ => rfl, FXB_0⟩) | exact (fun e => ⟨(w6 e).1, (w6 e).2.1, FXB_no (atx.2 (by omega))⟩) | exact (fun e => ⟨(w6 e).1, (w6 e).2.1, FXB_nv (atx.1 (by omega)) (by omega)⟩) | exact (fun e => ⟨(w6 (by omega)).1, (w6 (by omega)).2.1, FXB_s (S49.rf o) (fun _ => rfl) (w6 (by omega)).2.2 (by rw [show x4 = x3 by omega]; exact FX_self (atx.1 (by omega)))⟩) | exact (fun e => ⟨(w6 (by omega)).1, fun j => (sm17 (by omega) j).trans ((w6 (by omega)).2.1 j), FXB_s sr17 (sm17 (by omega)) (w6 (by omega)).2.2 (fx17 (by omega))⟩) | (intro e; have q9 := w6 e; rwa [show x4 = o.1 0 17 by omega] at q9))⟩
set_option maxRecDepth 20000 in
set_option maxHeartbeats 4000000 in
theorem tl_X12_cheapest_100  (i_o : OO) (i_x1 : Int) (i_x2 : Int) (hB_i_o : BoxM i_o) (k0 : KX i_o) (v0 : 0 ≤ i_x1 ∧ i_x1 ≤ 1) (v1 : 0 ≤ i_x2 ∧ i_x2 ≤ i_o.1 0 27) (v2 : (i_x1 = i_x1 ∧ SR i_o = SR i_o) ∨ (i_x1 = 1 ∧ SR i_o < SR i_o)) (v3 : RV i_o i_o) (v4 : R4a i_o (i_o.1 0 27)) (v5 : R4c i_o (i_o.1 0 27)) (v6 : (0 : Int) = i_x1 → FXA i_o i_x2) : T (loopW (fun s => l_X12_cheapest_100 s.1 s.2.1 s.2.2) (i_o, i_x1, i_x2)) (fun r => BoxM r.1 ∧ (Fr [(49, 9999), (50, 9999), (51, 9999)] i_o r.1) ∧ (0 ≤ r.2 ∧ r.2 ≤ 1) ∧ ((r.2 = i_x1 ∧ SR r.1 = SR i_o) ∨ (r.2 = 1 ∧ SR r.1 < SR i_o)) ∧ (RV i_o r.1) ∧ (R4a r.1 (r.1.1 0 27)) ∧ (R4c r.1 (r.1.1 0 27)) ∧ ((0 : Int) = r.2 → FXA r.1 (r.1.1 0 27))) := by
  have fr_i_o : Fr [(49, 9999), (50, 9999), (51, 9999)] i_o i_o := Fr.rf
  refine T_loop (fun s => BoxM s.1 ∧ (Fr [(49, 9999), (50, 9999), (51, 9999)] i_o s.1) ∧ (0 ≤ s.2.1 ∧ s.2.1 ≤ 1) ∧ (0 ≤ s.2.2 ∧ s.2.2 ≤ s.1.1 0 27) ∧ ((s.2.1 = i_x1 ∧ SR s.1 = SR i_o) ∨ (s.2.1 = 1 ∧ SR s.1 < SR i_o)) ∧ (RV i_o s.1) ∧ (R4a s.1 (s.1.1 0 27)) ∧ (R4c s.1 (s.1.1 0 27)) ∧ ((0 : Int) = s.2.1 → FXA s.1 s.2.2)) (fun s => (s.1.1 0 27 - s.2.2).toNat) (by exact ⟨hB_i_o, fr_i_o, v0, v1, v2, v3, v4, v5, v6⟩) (fun s hs => ?_)
  obtain ⟨o, x1, x2⟩ := s
  replace hs : BoxM o ∧ (Fr [(49, 9999), (50, 9999), (51, 9999)] i_o o) ∧ (0 ≤ x1 ∧ x1 ≤ 1) ∧ (0 ≤ x2 ∧ x2 ≤ o.1 0 27) ∧ ((x1 = i_x1 ∧ SR o = SR i_o) ∨ (x1 = 1 ∧ SR o < SR i_o)) ∧ (RV i_o o) ∧ (R4a o (o.1 0 27)) ∧ (R4c o (o.1 0 27)) ∧ ((0 : Int) = x1 → FXA o x2) := hs
  obtain ⟨hB_o, fr_o, w0, w1, w2, w3, w4, w5, w6⟩ := hs
  have g0_17_i := bM_0_17 hB_i_o
  have g0_17_o : o.1 0 17 = i_o.1 0 17 := fr_o.1 0 17 rfl
  have g0_27_i := bM_0_27 hB_i_o
  have g0_27_o : o.1 0 27 = i_o.1 0 27 := fr_o.1 0 27 rfl
  have s9 : S49 i_o o := S49.of fr_o (fun _ => rfl) (fun _ => rfl) (fun _ => rfl) (fun _ => rfl) (fun _ => rfl) rfl rfl
  have kx9 : KX i_o := by assumption
  have kxo : KX o := kx9.cg s9
  show T (l_X12_cheapest_100 o x1 x2) _
  unfold l_X12_cheapest_100
  refine T_qLt ⟨by omega, by omega⟩ ⟨by omega, by omega⟩ (fun h26 => ?_) (fun h26 => ?_)
  ·
    refine T_qIn ⟨by omega, by omega⟩ ?_
    refine T_qNm (fun n21 e_n21 => ?_)
    have b_n21 : 0 ≤ n21 ∧ n21 ≤ 1 := by rw [e_n21]; exact bM_47 hB_o _
    have at21 : n21 = 0 → ATX o x2 (-9) := fun e => ⟨fun q => absurd q (by decide), fun _ h a => a.1.2.2 (by rw [← e_n21]; exact e)⟩
    refine T_qEq ⟨by omega, by omega⟩ ⟨by decide, by decide⟩ (fun h27 => ?_) (fun h27 => ?_)
    ·
      unfold b_X12_cheapest_128
      unfold e_X12_cheapest_132
      refine T_qB (tl_X12_cheapest_132 x2 (-9) o x1 0 hB_o (by assumption) (by omega) (by omega) (by first | exact at21 (by omega) | exact at23 (by omega)) (by omega) (by omega) (by omega) (by first | assumption | exact RV_0 nv2 | exact RV.tr s9 w1 | exact RV.tr s9 w3 | exact RV.tr s9.sy rv9) (by first | assumption | exact R4a_0 | exact R4a_skip w2 (un25 (by omega)) | exact R4a_skip w2 (un27 (by omega)) | exact R4a_s w2 (by have q9 := w4; rwa [show x2 = o.1 0 17 by omega] at q9) | (have q9 := w2; rwa [show x1 = o.1 0 27 by omega] at q9)) (by first | assumption | exact R4c_0 nv2 | exact w3.elim id (fun q => R4c_up q (by omega)) | (have q9 := w3; rwa [show x1 = o.1 0 27 by omega] at q9)) (by first | assumption | exact (fun e => absurd e (by decide)) | exact (fun e => ⟨e, fun _ => rfl, FXB_0⟩) | exact (fun e => ⟨(w6 e).1, (w6 e).2.1, FXB_no (atx.2 (by omega))⟩) | exact (fun e => ⟨(w6 e).1, (w6 e).2.1, FXB_nv (atx.1 (by omega)) (by omega)⟩) | exact (fun e => ⟨(w6 (by omega)).1, (w6 (by omega)).2.1, FXB_s (S49.rf o) (fun _ => rfl) (w6 (by omega)).2.2 (by rw [show x4 = x3 by omega]; exact FX_self (atx.1 (by omega)))⟩) | exact (fun e => ⟨(w6 (by omega)).1, fun j => (sm17 (by omega) j).trans ((w6 (by omega)).2.1 j), FXB_s sr17 (sm17 (by omega)) (w6 (by omega)).2.2 (fx17 (by omega))⟩) | (intro e; have q9 := w6 e; rwa [show x4 = o.1 0 17 by omega] at q9))) (fun r28 hc_r28 hp29 => ?_)
      obtain ⟨o_30, x1_31⟩ := r28
      replace hp29 : BoxM o_30 ∧ (Fr [(49, 9999), (50, 9999), (51, 9999)] o o_30) ∧ (0 ≤ x1_31 ∧ x1_31 ≤ 1) ∧ ((x1_31 = x1 ∧ SR o_30 = SR o) ∨ (x1_31 = 1 ∧ SR o_30 < SR o)) ∧ (RV o o_30) ∧ (R4a o_30 (o_30.1 0 27)) ∧ (R4c o_30 (o_30.1 0 27)) ∧ ((0 : Int) = x1_31 → (0 : Int) = x1 ∧ (∀ j, o_30.1 49 j = o.1 49 j) ∧ FXB o_30 x2 (o_30.1 0 17)) := hp29
      have hps_hp29 := hp29
      obtain ⟨hp29_0, hp29_1, hp29_2, hp29_3, hp29_4, hp29_5, hp29_6, hp29_7⟩ := hps_hp29
      obtain ⟨hB_o_30, fc_o_30, hp29⟩ := hp29
      replace hp29 := hid hp29
      have fr_o_30 : Fr [(49, 9999), (50, 9999), (51, 9999)] i_o o_30 := Fr.tr fr_o fc_o_30 rfl
      have g0_17_o_30 : o_30.1 0 17 = o.1 0 17 := fc_o_30.1 0 17 rfl
      have g0_27_o_30 : o_30.1 0 27 = o.1 0 27 := fc_o_30.1 0 27 rfl
      show T (b_X12_cheapest_211 o_30 x1_31 x2) _
      have sx9 : S49 o o_30 := S49.of fc_o_30 (fun _ => rfl) (fun _ => rfl) (fun _ => rfl) (fun _ => rfl) (fun _ => rfl) rfl rfl
      have rv9 : RV o o_30 := by assumption
      have zx9 : (0 : Int) = x1_31 → (0 : Int) = x1 ∧ (∀ j, o_30.1 49 j = o.1 49 j) ∧ FXB o_30 x2 (o_30.1 0 17) := by assumption
      unfold b_X12_cheapest_211
      refine T_some ?_
      show (BoxM o_30 ∧ (Fr [(49, 9999), (50, 9999), (51, 9999)] i_o o_30) ∧ (0 ≤ x1_31 ∧ x1_31 ≤ 1) ∧ (0 ≤ (x2 + 1) ∧ (x2 + 1) ≤ o_30.1 0 27) ∧ ((x1_31 = i_x1 ∧ SR o_30 = SR i_o) ∨ (x1_31 = 1 ∧ SR o_30 < SR i_o)) ∧ (RV i_o o_30) ∧ (R4a o_30 (o_30.1 0 27)) ∧ (R4c o_30 (o_30.1 0 27)) ∧ ((0 : Int) = x1_31 → FXA o_30 (x2 + 1))) ∧ (o_30.1 0 27 - (x2 + 1)).toNat < (o.1 0 27 - x2).toNat
      exact ⟨⟨hB_o_30, fr_o_30, (by omega), (by omega), (by omega), (by first | assumption | exact RV_0 nv2 | exact RV.tr s9 w1 | exact RV.tr s9 w3 | exact RV.tr s9.sy rv9), (by first | assumption | exact R4a_0 | exact R4a_skip w2 (un25 (by omega)) | exact R4a_skip w2 (un27 (by omega)) | exact R4a_s w2 (by have q9 := w4; rwa [show x2 = o.1 0 17 by omega] at q9) | (have q9 := w2; rwa [show x1 = o.1 0 27 by omega] at q9)), (by first | assumption | exact R4c_0 nv2 | exact w3.elim id (fun q => R4c_up q (by omega)) | (have q9 := w3; rwa [show x1 = o.1 0 27 by omega] at q9)), (by first | assumption | exact (fun e => absurd e (by decide)) | exact (fun _ => FXA_0) | exact (fun e => FXA_s sx9 (zx9 e).2.1 (w6 (zx9 e).1) (zx9 e).2.2) | (intro e; have q9 := w6 e; rwa [show x2 = o.1 0 27 by omega] at q9))⟩, by omega⟩
    ·
      refine T_qIn ⟨by omega, by omega⟩ ?_
      refine T_qNm (fun n23 e_n23 => ?_)
      have b_n23 : -9 ≤ n23 ∧ n23 ≤ 31 := by rw [e_n23]; exact bM_46 hB_o _
      have at23 : ¬ n21 = 0 → ATX o x2 n23 := fun e => ⟨fun q => ⟨⟨by omega, by omega, by rw [← e_n21]; exact e⟩, e_n23.symm, q⟩, fun q h a => by have x1 := a.2.1; have x2 := a.2.2; omega⟩
      unfold b_X12_cheapest_128
      unfold e_X12_cheapest_132
      refine T_qB (tl_X12_cheapest_132 x2 n23 o x1 0 hB_o (by assumption) (by omega) (by omega) (by first | exact at21 (by omega) | exact at23 (by omega)) (by omega) (by omega) (by omega) (by first | assumption | exact RV_0 nv2 | exact RV.tr s9 w1 | exact RV.tr s9 w3 | exact RV.tr s9.sy rv9) (by first | assumption | exact R4a_0 | exact R4a_skip w2 (un25 (by omega)) | exact R4a_skip w2 (un27 (by omega)) | exact R4a_s w2 (by have q9 := w4; rwa [show x2 = o.1 0 17 by omega] at q9) | (have q9 := w2; rwa [show x1 = o.1 0 27 by omega] at q9)) (by first | assumption | exact R4c_0 nv2 | exact w3.elim id (fun q => R4c_up q (by omega)) | (have q9 := w3; rwa [show x1 = o.1 0 27 by omega] at q9)) (by first | assumption | exact (fun e => absurd e (by decide)) | exact (fun e => ⟨e, fun _ => rfl, FXB_0⟩) | exact (fun e => ⟨(w6 e).1, (w6 e).2.1, FXB_no (atx.2 (by omega))⟩) | exact (fun e => ⟨(w6 e).1, (w6 e).2.1, FXB_nv (atx.1 (by omega)) (by omega)⟩) | exact (fun e => ⟨(w6 (by omega)).1, (w6 (by omega)).2.1, FXB_s (S49.rf o) (fun _ => rfl) (w6 (by omega)).2.2 (by rw [show x4 = x3 by omega]; exact FX_self (atx.1 (by omega)))⟩) | exact (fun e => ⟨(w6 (by omega)).1, fun j => (sm17 (by omega) j).trans ((w6 (by omega)).2.1 j), FXB_s sr17 (sm17 (by omega)) (w6 (by omega)).2.2 (fx17 (by omega))⟩) | (intro e; have q9 := w6 e; rwa [show x4 = o.1 0 17 by omega] at q9))) (fun r32 hc_r32 hp33 => ?_)
      obtain ⟨o_34, x1_35⟩ := r32
      replace hp33 : BoxM o_34 ∧ (Fr [(49, 9999), (50, 9999), (51, 9999)] o o_34) ∧ (0 ≤ x1_35 ∧ x1_35 ≤ 1) ∧ ((x1_35 = x1 ∧ SR o_34 = SR o) ∨ (x1_35 = 1 ∧ SR o_34 < SR o)) ∧ (RV o o_34) ∧ (R4a o_34 (o_34.1 0 27)) ∧ (R4c o_34 (o_34.1 0 27)) ∧ ((0 : Int) = x1_35 → (0 : Int) = x1 ∧ (∀ j, o_34.1 49 j = o.1 49 j) ∧ FXB o_34 x2 (o_34.1 0 17)) := hp33
      have hps_hp33 := hp33
      obtain ⟨hp33_0, hp33_1, hp33_2, hp33_3, hp33_4, hp33_5, hp33_6, hp33_7⟩ := hps_hp33
      obtain ⟨hB_o_34, fc_o_34, hp33⟩ := hp33
      replace hp33 := hid hp33
      have fr_o_34 : Fr [(49, 9999), (50, 9999), (51, 9999)] i_o o_34 := Fr.tr fr_o fc_o_34 rfl
      have g0_17_o_34 : o_34.1 0 17 = o.1 0 17 := fc_o_34.1 0 17 rfl
      have g0_27_o_34 : o_34.1 0 27 = o.1 0 27 := fc_o_34.1 0 27 rfl
      show T (b_X12_cheapest_211 o_34 x1_35 x2) _
      have sx9 : S49 o o_34 := S49.of fc_o_34 (fun _ => rfl) (fun _ => rfl) (fun _ => rfl) (fun _ => rfl) (fun _ => rfl) rfl rfl
      have rv9 : RV o o_34 := by assumption
      have zx9 : (0 : Int) = x1_35 → (0 : Int) = x1 ∧ (∀ j, o_34.1 49 j = o.1 49 j) ∧ FXB o_34 x2 (o_34.1 0 17) := by assumption
      unfold b_X12_cheapest_211
      refine T_some ?_
      show (BoxM o_34 ∧ (Fr [(49, 9999), (50, 9999), (51, 9999)] i_o o_34) ∧ (0 ≤ x1_35 ∧ x1_35 ≤ 1) ∧ (0 ≤ (x2 + 1) ∧ (x2 + 1) ≤ o_34.1 0 27) ∧ ((x1_35 = i_x1 ∧ SR o_34 = SR i_o) ∨ (x1_35 = 1 ∧ SR o_34 < SR i_o)) ∧ (RV i_o o_34) ∧ (R4a o_34 (o_34.1 0 27)) ∧ (R4c o_34 (o_34.1 0 27)) ∧ ((0 : Int) = x1_35 → FXA o_34 (x2 + 1))) ∧ (o_34.1 0 27 - (x2 + 1)).toNat < (o.1 0 27 - x2).toNat
      exact ⟨⟨hB_o_34, fr_o_34, (by omega), (by omega), (by omega), (by first | assumption | exact RV_0 nv2 | exact RV.tr s9 w1 | exact RV.tr s9 w3 | exact RV.tr s9.sy rv9), (by first | assumption | exact R4a_0 | exact R4a_skip w2 (un25 (by omega)) | exact R4a_skip w2 (un27 (by omega)) | exact R4a_s w2 (by have q9 := w4; rwa [show x2 = o.1 0 17 by omega] at q9) | (have q9 := w2; rwa [show x1 = o.1 0 27 by omega] at q9)), (by first | assumption | exact R4c_0 nv2 | exact w3.elim id (fun q => R4c_up q (by omega)) | (have q9 := w3; rwa [show x1 = o.1 0 27 by omega] at q9)), (by first | assumption | exact (fun e => absurd e (by decide)) | exact (fun _ => FXA_0) | exact (fun e => FXA_s sx9 (zx9 e).2.1 (w6 (zx9 e).1) (zx9 e).2.2) | (intro e; have q9 := w6 e; rwa [show x2 = o.1 0 27 by omega] at q9))⟩, by omega⟩
  ·
    refine T_some ?_
    show BoxM o ∧ (Fr [(49, 9999), (50, 9999), (51, 9999)] i_o o) ∧ (0 ≤ x1 ∧ x1 ≤ 1) ∧ ((x1 = i_x1 ∧ SR o = SR i_o) ∨ (x1 = 1 ∧ SR o < SR i_o)) ∧ (RV i_o o) ∧ (R4a o (o.1 0 27)) ∧ (R4c o (o.1 0 27)) ∧ ((0 : Int) = x1 → FXA o (o.1 0 27))
    exact ⟨hB_o, fr_o, (by omega), (by omega), (by first | assumption | exact RV_0 nv2 | exact RV.tr s9 w1 | exact RV.tr s9 w3 | exact RV.tr s9.sy rv9), (by first | assumption | exact R4a_0 | exact R4a_skip w2 (un25 (by omega)) | exact R4a_skip w2 (un27 (by omega)) | exact R4a_s w2 (by have q9 := w4; rwa [show x2 = o.1 0 17 by omega] at q9) | (have q9 := w2; rwa [show x1 = o.1 0 27 by omega] at q9)), (by first | assumption | exact R4c_0 nv2 | exact w3.elim id (fun q => R4c_up q (by omega)) | (have q9 := w3; rwa [show x1 = o.1 0 27 by omega] at q9)), (by first | assumption | exact (fun e => absurd e (by decide)) | exact (fun _ => FXA_0) | exact (fun e => FXA_s sx9 (zx9 e).2.1 (w6 (zx9 e).1) (zx9 e).2.2) | (intro e; have q9 := w6 e; rwa [show x2 = o.1 0 27 by omega] at q9))⟩
set_option maxRecDepth 20000 in
set_option maxHeartbeats 4000000 in
theorem tl_X12_cheapest_92  (i_o : OO) (i_x1 : Int) (hB_i_o : BoxM i_o) (k0 : KX i_o) (v0 : 0 ≤ i_x1 ∧ i_x1 ≤ 1) (v1 : RV i_o i_o) (v2 : R4a i_o (i_o.1 0 27)) (v3 : R4c i_o (i_o.1 0 27)) (v4 : (0 : Int) = i_x1 → FXA i_o (i_o.1 0 27)) : T (loopW (fun s => l_X12_cheapest_92 s.1 s.2) (i_o, i_x1)) (fun r => BoxM r ∧ (Fr [(49, 9999), (50, 9999), (51, 9999)] i_o r) ∧ (RV i_o r) ∧ (R4a r (r.1 0 27)) ∧ (R4c r (r.1 0 27)) ∧ (FXA r (r.1 0 27))) := by
  have fr_i_o : Fr [(49, 9999), (50, 9999), (51, 9999)] i_o i_o := Fr.rf
  refine T_loop (fun s => BoxM s.1 ∧ (Fr [(49, 9999), (50, 9999), (51, 9999)] i_o s.1) ∧ (0 ≤ s.2 ∧ s.2 ≤ 1) ∧ (RV i_o s.1) ∧ (R4a s.1 (s.1.1 0 27)) ∧ (R4c s.1 (s.1.1 0 27)) ∧ ((0 : Int) = s.2 → FXA s.1 (s.1.1 0 27))) (fun s => (SR s.1 + 68719476736).toNat + s.2.toNat) (by exact ⟨hB_i_o, fr_i_o, v0, v1, v2, v3, v4⟩) (fun s hs => ?_)
  obtain ⟨o, x1⟩ := s
  replace hs : BoxM o ∧ (Fr [(49, 9999), (50, 9999), (51, 9999)] i_o o) ∧ (0 ≤ x1 ∧ x1 ≤ 1) ∧ (RV i_o o) ∧ (R4a o (o.1 0 27)) ∧ (R4c o (o.1 0 27)) ∧ ((0 : Int) = x1 → FXA o (o.1 0 27)) := hs
  obtain ⟨hB_o, fr_o, w0, w1, w2, w3, w4⟩ := hs
  have g0_17_i := bM_0_17 hB_i_o
  have g0_17_o : o.1 0 17 = i_o.1 0 17 := fr_o.1 0 17 rfl
  have g0_27_i := bM_0_27 hB_i_o
  have g0_27_o : o.1 0 27 = i_o.1 0 27 := fr_o.1 0 27 rfl
  have s9 : S49 i_o o := S49.of fr_o (fun _ => rfl) (fun _ => rfl) (fun _ => rfl) (fun _ => rfl) (fun _ => rfl) rfl rfl
  have kx9 : KX i_o := by assumption
  have kxo : KX o := kx9.cg s9
  have sl9 := SR_lo hB_o
  show T (l_X12_cheapest_92 o x1) _
  unfold l_X12_cheapest_92
  refine T_qEq ⟨by omega, by omega⟩ ⟨by decide, by decide⟩ (fun h36 => ?_) (fun h36 => ?_)
  ·
    refine T_some ?_
    show BoxM o ∧ (Fr [(49, 9999), (50, 9999), (51, 9999)] i_o o) ∧ (RV i_o o) ∧ (R4a o (o.1 0 27)) ∧ (R4c o (o.1 0 27)) ∧ (FXA o (o.1 0 27))
    exact ⟨hB_o, fr_o, (by first | assumption | exact RV_0 nv2 | exact RV.tr s9 w1 | exact RV.tr s9 w3 | exact RV.tr s9.sy rv9), (by first | assumption | exact R4a_0 | exact R4a_skip w2 (un25 (by omega)) | exact R4a_skip w2 (un27 (by omega)) | exact R4a_s w2 (by have q9 := w4; rwa [show x2 = o.1 0 17 by omega] at q9) | (have q9 := w2; rwa [show x1 = o.1 0 27 by omega] at q9)), (by first | assumption | exact R4c_0 nv2 | exact w3.elim id (fun q => R4c_up q (by omega)) | (have q9 := w3; rwa [show x1 = o.1 0 27 by omega] at q9)), (w4 (by omega))⟩
  ·
    unfold e_X12_cheapest_100
    refine T_qB (tl_X12_cheapest_100 o 0 0 hB_o (by assumption) (by omega) (by omega) (by omega) (by first | assumption | exact RV_0 nv2 | exact RV.tr s9 w1 | exact RV.tr s9 w3 | exact RV.tr s9.sy rv9) (by first | assumption | exact R4a_0 | exact R4a_skip w2 (un25 (by omega)) | exact R4a_skip w2 (un27 (by omega)) | exact R4a_s w2 (by have q9 := w4; rwa [show x2 = o.1 0 17 by omega] at q9) | (have q9 := w2; rwa [show x1 = o.1 0 27 by omega] at q9)) (by first | assumption | exact R4c_0 nv2 | exact w3.elim id (fun q => R4c_up q (by omega)) | (have q9 := w3; rwa [show x1 = o.1 0 27 by omega] at q9)) (by first | assumption | exact (fun e => absurd e (by decide)) | exact (fun _ => FXA_0) | exact (fun e => FXA_s sx9 (zx9 e).2.1 (w6 (zx9 e).1) (zx9 e).2.2) | (intro e; have q9 := w6 e; rwa [show x2 = o.1 0 27 by omega] at q9))) (fun r37 hc_r37 hp38 => ?_)
    obtain ⟨o_39, x1_40⟩ := r37
    replace hp38 : BoxM o_39 ∧ (Fr [(49, 9999), (50, 9999), (51, 9999)] o o_39) ∧ (0 ≤ x1_40 ∧ x1_40 ≤ 1) ∧ ((x1_40 = 0 ∧ SR o_39 = SR o) ∨ (x1_40 = 1 ∧ SR o_39 < SR o)) ∧ (RV o o_39) ∧ (R4a o_39 (o_39.1 0 27)) ∧ (R4c o_39 (o_39.1 0 27)) ∧ ((0 : Int) = x1_40 → FXA o_39 (o_39.1 0 27)) := hp38
    have hps_hp38 := hp38
    obtain ⟨hp38_0, hp38_1, hp38_2, hp38_3, hp38_4, hp38_5, hp38_6, hp38_7⟩ := hps_hp38
    obtain ⟨hB_o_39, fc_o_39, hp38⟩ := hp38
    replace hp38 := hid hp38
    have fr_o_39 : Fr [(49, 9999), (50, 9999), (51, 9999)] i_o o_39 := Fr.tr fr_o fc_o_39 rfl
    have g0_17_o_39 : o_39.1 0 17 = o.1 0 17 := fc_o_39.1 0 17 rfl
    have g0_27_o_39 : o_39.1 0 27 = o.1 0 27 := fc_o_39.1 0 27 rfl
    show T (b_X12_cheapest_217 o_39 x1_40) _
    have slm := SR_lo hB_o_39
    have rv9 : RV o o_39 := by assumption
    unfold b_X12_cheapest_217
    refine T_some ?_
    show (BoxM o_39 ∧ (Fr [(49, 9999), (50, 9999), (51, 9999)] i_o o_39) ∧ (0 ≤ x1_40 ∧ x1_40 ≤ 1) ∧ (RV i_o o_39) ∧ (R4a o_39 (o_39.1 0 27)) ∧ (R4c o_39 (o_39.1 0 27)) ∧ ((0 : Int) = x1_40 → FXA o_39 (o_39.1 0 27))) ∧ (SR o_39 + 68719476736).toNat + x1_40.toNat < (SR o + 68719476736).toNat + x1.toNat
    exact ⟨⟨hB_o_39, fr_o_39, (by omega), (by first | assumption | exact RV_0 nv2 | exact RV.tr s9 w1 | exact RV.tr s9 w3 | exact RV.tr s9.sy rv9), (by first | assumption | exact R4a_0 | exact R4a_skip w2 (un25 (by omega)) | exact R4a_skip w2 (un27 (by omega)) | exact R4a_s w2 (by have q9 := w4; rwa [show x2 = o.1 0 17 by omega] at q9) | (have q9 := w2; rwa [show x1 = o.1 0 27 by omega] at q9)), (by first | assumption | exact R4c_0 nv2 | exact w3.elim id (fun q => R4c_up q (by omega)) | (have q9 := w3; rwa [show x1 = o.1 0 27 by omega] at q9)), (by first | assumption | exact (fun e => absurd e (by decide)) | exact (fun _ => FXA_0) | exact (fun e => FXA_s sx9 (zx9 e).2.1 (w6 (zx9 e).1) (zx9 e).2.2) | (intro e; have q9 := w6 e; rwa [show x2 = o.1 0 27 by omega] at q9))⟩, by omega⟩
set_option maxRecDepth 20000 in
set_option maxHeartbeats 4000000 in
theorem t_X12_cheapest (o : OO) (hB_o : BoxM o) (k0 : KX o) : T (s_X12_cheapest o) (fun v => BoxM v.2 ∧ (Fr [(49, 9999), (50, 9999), (51, 9999)] o v.2) ∧ (v.1 = -9 ∨ (0 ≤ v.1 ∧ v.1 < o.1 0 17)) ∧ (RESX o v.2 v.1)) := by
  have fr_o : Fr [(49, 9999), (50, 9999), (51, 9999)] o o := Fr.rf
  have g0_17_o := bM_0_17 hB_o
  have g0_27_o := bM_0_27 hB_o
  unfold s_X12_cheapest
  unfold e_X12_cheapest_2
  refine T_qB (tl_X12_cheapest_2 o 0 hB_o (by omega) (by first | assumption | exact NVN_0 | (have q9 := w1; rwa [show x1 = o.1 0 17 by omega] at q9))) (fun r41 hc_r41 hp42 => ?_)
  obtain ⟨o_43, q_o_43⟩ : ∃ q, q = r41 := ⟨_, rfl⟩
  subst q_o_43
  replace hp42 : BoxM o_43 ∧ (Fr [(49, 9999)] o o_43) ∧ (NVN o_43 (o_43.1 0 17)) := hp42
  have hps_hp42 := hp42
  obtain ⟨hp42_0, hp42_1, hp42_2⟩ := hps_hp42
  obtain ⟨hB_o_43, fc_o_43, hp42⟩ := hp42
  replace hp42 := hid hp42
  have fr_o_43 : Fr [(49, 9999), (50, 9999), (51, 9999)] o o_43 := Fr.tr fr_o fc_o_43 rfl
  have g0_17_o_43 : o_43.1 0 17 = o.1 0 17 := fc_o_43.1 0 17 rfl
  have g0_27_o_43 : o_43.1 0 27 = o.1 0 27 := fc_o_43.1 0 27 rfl
  show T (b_X12_cheapest_25 o_43) _
  have nv2 : NVN o_43 (o_43.1 0 17) := by assumption
  have sa2 : S49 o o_43 := S49.of fc_o_43 (fun _ => rfl) (fun _ => rfl) (fun _ => rfl) (fun _ => rfl) (fun _ => rfl) rfl rfl
  have kx2 : KX o_43 := KX.cg sa2 (by assumption)
  unfold b_X12_cheapest_25
  unfold e_X12_cheapest_27
  refine T_qB (tl_X12_cheapest_27 o_43 0 hB_o_43 (by assumption) (by omega) (by first | assumption | exact RV_0 nv2 | exact RV.tr s9 w1 | exact RV.tr s9 w3 | exact RV.tr s9.sy rv9) (by first | assumption | exact R4a_0 | exact R4a_skip w2 (un25 (by omega)) | exact R4a_skip w2 (un27 (by omega)) | exact R4a_s w2 (by have q9 := w4; rwa [show x2 = o.1 0 17 by omega] at q9) | (have q9 := w2; rwa [show x1 = o.1 0 27 by omega] at q9)) (by first | assumption | exact R4c_0 nv2 | exact w3.elim id (fun q => R4c_up q (by omega)) | (have q9 := w3; rwa [show x1 = o.1 0 27 by omega] at q9))) (fun r44 hc_r44 hp45 => ?_)
  obtain ⟨o_46, q_o_46⟩ : ∃ q, q = r44 := ⟨_, rfl⟩
  subst q_o_46
  replace hp45 : BoxM o_46 ∧ (Fr [(49, 9999), (50, 9999), (51, 9999)] o_43 o_46) ∧ (RV o_43 o_46) ∧ (R4a o_46 (o_46.1 0 27)) ∧ (R4c o_46 (o_46.1 0 27)) := hp45
  have hps_hp45 := hp45
  obtain ⟨hp45_0, hp45_1, hp45_2, hp45_3, hp45_4⟩ := hps_hp45
  obtain ⟨hB_o_46, fc_o_46, hp45⟩ := hp45
  replace hp45 := hid hp45
  have fr_o_46 : Fr [(49, 9999), (50, 9999), (51, 9999)] o o_46 := Fr.tr fr_o_43 fc_o_46 rfl
  have g0_17_o_46 : o_46.1 0 17 = o_43.1 0 17 := fc_o_46.1 0 17 rfl
  have g0_27_o_46 : o_46.1 0 27 = o_43.1 0 27 := fc_o_46.1 0 27 rfl
  show T (b_X12_cheapest_90 o_46) _
  have sa27 : S49 o_43 o_46 := S49.of fc_o_46 (fun _ => rfl) (fun _ => rfl) (fun _ => rfl) (fun _ => rfl) (fun _ => rfl) rfl rfl
  have kx27 : KX o_46 := KX.cg sa27 (by assumption)
  have rv27 : RV o_46 o_46 := RV.tr sa27 (by assumption)
  unfold b_X12_cheapest_90
  unfold e_X12_cheapest_92
  refine T_qB (tl_X12_cheapest_92 o_46 1 hB_o_46 (by assumption) (by omega) (by first | assumption | exact RV_0 nv2 | exact RV.tr s9 w1 | exact RV.tr s9 w3 | exact RV.tr s9.sy rv9) (by first | assumption | exact R4a_0 | exact R4a_skip w2 (un25 (by omega)) | exact R4a_skip w2 (un27 (by omega)) | exact R4a_s w2 (by have q9 := w4; rwa [show x2 = o.1 0 17 by omega] at q9) | (have q9 := w2; rwa [show x1 = o.1 0 27 by omega] at q9)) (by first | assumption | exact R4c_0 nv2 | exact w3.elim id (fun q => R4c_up q (by omega)) | (have q9 := w3; rwa [show x1 = o.1 0 27 by omega] at q9)) (by first | assumption | exact (fun e => absurd e (by decide)) | exact (fun _ => FXA_0) | exact (fun e => FXA_s sx9 (zx9 e).2.1 (w6 (zx9 e).1) (zx9 e).2.2) | (intro e; have q9 := w6 e; rwa [show x2 = o.1 0 27 by omega] at q9))) (fun r47 hc_r47 hp48 => ?_)
  obtain ⟨o_49, q_o_49⟩ : ∃ q, q = r47 := ⟨_, rfl⟩
  subst q_o_49
  replace hp48 : BoxM o_49 ∧ (Fr [(49, 9999), (50, 9999), (51, 9999)] o_46 o_49) ∧ (RV o_46 o_49) ∧ (R4a o_49 (o_49.1 0 27)) ∧ (R4c o_49 (o_49.1 0 27)) ∧ (FXA o_49 (o_49.1 0 27)) := hp48
  have hps_hp48 := hp48
  obtain ⟨hp48_0, hp48_1, hp48_2, hp48_3, hp48_4, hp48_5⟩ := hps_hp48
  obtain ⟨hB_o_49, fc_o_49, hp48⟩ := hp48
  replace hp48 := hid hp48
  have fr_o_49 : Fr [(49, 9999), (50, 9999), (51, 9999)] o o_49 := Fr.tr fr_o_46 fc_o_49 rfl
  have g0_17_o_49 : o_49.1 0 17 = o_46.1 0 17 := fc_o_49.1 0 17 rfl
  have g0_27_o_49 : o_49.1 0 27 = o_46.1 0 27 := fc_o_49.1 0 27 rfl
  show T (b_X12_cheapest_220 o_49) _
  have sa92 : S49 o_46 o_49 := S49.of fc_o_49 (fun _ => rfl) (fun _ => rfl) (fun _ => rfl) (fun _ => rfl) (fun _ => rfl) rfl rfl
  have rv92 : RV o_46 o_49 := by assumption
  have ra92 : R4a o_49 (o_49.1 0 27) := by assumption
  have rc92 : R4c o_49 (o_49.1 0 27) := by assumption
  have fx92 : FXA o_49 (o_49.1 0 27) := by assumption
  unfold b_X12_cheapest_220
  unfold e_X12_cheapest_225
  refine T_qB (tl_X12_cheapest_225 o_49 (-9) 0 hB_o_49 (by omega) (by omega)) (fun r50 hc_r50 hp51 => ?_)
  obtain ⟨x2_52, q_x2_52⟩ : ∃ q, q = r50 := ⟨_, rfl⟩
  subst q_x2_52
  replace hp51 : ((x2_52 = -9 ∨ (0 ≤ x2_52 ∧ x2_52 < o_49.1 0 17 ∧ 0 < o_49.1 48 x2_52.toNat ∧ o_49.1 49 x2_52.toNat < 100000000))) := hp51
  show T (b_X12_cheapest_285 o_49 x2_52) _
  have be9 : (x2_52 = -9 ∨ (0 ≤ x2_52 ∧ x2_52 < o_49.1 0 17 ∧ 0 < o_49.1 48 x2_52.toNat ∧ o_49.1 49 x2_52.toNat < 100000000)) := by assumption
  unfold b_X12_cheapest_285
  refine T_some ?_
  show BoxM o_49 ∧ (Fr [(49, 9999), (50, 9999), (51, 9999)] o o_49) ∧ (x2_52 = -9 ∨ (0 ≤ x2_52 ∧ x2_52 < o.1 0 17)) ∧ (RESX o o_49 x2_52)
  exact ⟨hB_o_49, fr_o_49, (by omega), (RESX_of (sa2.tr sa27) sa92 rv92 ra92 rc92 fx92 be9)⟩
