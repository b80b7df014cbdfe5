set_option maxRecDepth 20000 in
set_option maxHeartbeats 4000000 in
theorem t_X12_isText (x0 : Int) (k0 : inR x0) : T (s_X12_isText x0) (fun v => ((v = 1 ∧ 0 ≤ x0 ∧ x0 ≤ 3) ∨ (v = 0 ∧ (x0 < 0 ∨ 3 < x0)))) := by
  unfold s_X12_isText
  refine T_qB (t_X12_in x0 0 3 (by omega) (by omega) (by omega)) (fun r1 hc_r1 hp1 => ?_)
  replace hp1 : ((r1 = 1 ∧ 0 ≤ x0 ∧ x0 ≤ 3) ∨ (r1 = 0 ∧ (x0 < 0 ∨ 3 < x0))) := hp1
  refine T_qZ (by omega) ?_
  refine T_some ?_
  show ((r1 = 1 ∧ 0 ≤ x0 ∧ x0 ≤ 3) ∨ (r1 = 0 ∧ (x0 < 0 ∨ 3 < x0)))
  exact (by omega)
set_option maxRecDepth 20000 in
set_option maxHeartbeats 4000000 in
theorem t_X12_askedText (o : OO) (x1 : Int) (hB_o : BoxM o) (k0 : inR x1) : T (s_X12_askedText o x1) (fun v => BoxM v.2 ∧ (Fr [(0, 0), (1, 9999)] o v.2) ∧ (v.1 = -1 ∨ v.1 = -3 ∨ (v.1 = 0 ∧ 0 ≤ x1 ∧ x1 ≤ 3 ∧ 0 ≤ v.2.1 5 x1.toNat))) := by
  have fr_o : Fr [(0, 0), (1, 9999)] o o := Fr.rf
  unfold s_X12_askedText
  refine T_qB (t_X12_isText x1 (by omega)) (fun r1 hc_r1 hp1 => ?_)
  replace hp1 : ((r1 = 1 ∧ 0 ≤ x1 ∧ x1 ≤ 3) ∨ (r1 = 0 ∧ (x1 < 0 ∨ 3 < x1))) := hp1
  refine T_qEq ⟨by omega, by omega⟩ ⟨by decide, by decide⟩ (fun h2 => ?_) (fun h2 => ?_)
  ·
    unfold b_X12_askedText_29
    refine T_some ?_
    show BoxM o ∧ (Fr [(0, 0), (1, 9999)] o o) ∧ ((-1) = -1 ∨ (-1) = -3 ∨ ((-1) = 0 ∧ 0 ≤ x1 ∧ x1 ≤ 3 ∧ 0 ≤ o.1 5 x1.toNat))
    exact ⟨hB_o, fr_o, (by omega)⟩
  ·
    refine T_qIn ⟨by omega, by omega⟩ ?_
    refine T_qNm (fun n4 e_n4 => ?_)
    have b_n4 : -9 ≤ n4 ∧ n4 ≤ 40 := by rw [e_n4]; exact bM_5 hB_o _
    refine T_qLt ⟨by omega, by omega⟩ ⟨by decide, by decide⟩ (fun h3 => ?_) (fun h3 => ?_)
    ·
      refine T_qB2 (t_X12_meets o 1 hB_o (by omega)) (fun r5 o7 hc_r5 hp4 => ?_)
      replace hp4 : BoxM o7 ∧ (Fr [(0, 0), (1, 9999)] o o7) ∧ (r5 = -3) := hp4
      obtain ⟨hB_o7, fc_o7, hp4⟩ := hp4
      have fr_o7 : Fr [(0, 0), (1, 9999)] o o7 := Fr.tr fr_o fc_o7 rfl
      unfold b_X12_askedText_29
      refine T_some ?_
      show BoxM o7 ∧ (Fr [(0, 0), (1, 9999)] o o7) ∧ (r5 = -1 ∨ r5 = -3 ∨ (r5 = 0 ∧ 0 ≤ x1 ∧ x1 ≤ 3 ∧ 0 ≤ o7.1 5 x1.toNat))
      exact ⟨hB_o7, fr_o7, (by omega)⟩
    ·
      unfold b_X12_askedText_29
      refine T_some ?_
      show BoxM o ∧ (Fr [(0, 0), (1, 9999)] o o) ∧ (0 = -1 ∨ 0 = -3 ∨ (0 = 0 ∧ 0 ≤ x1 ∧ x1 ≤ 3 ∧ 0 ≤ o.1 5 x1.toNat))
      exact ⟨hB_o, fr_o, (by omega)⟩
set_option maxRecDepth 20000 in
set_option maxHeartbeats 4000000 in
theorem t_X12_letter (x0 : Int) (k0 : inR x0) : T (s_X12_letter x0) (fun v => (-9 ≤ v ∧ v ≤ 7)) := by
  unfold s_X12_letter
  refine T_qEq ⟨by omega, by omega⟩ ⟨by decide, by decide⟩ (fun h1 => ?_) (fun h1 => ?_)
  ·
    refine T_some ?_
    show (-9 ≤ 1 ∧ 1 ≤ 7)
    exact (by omega)
  ·
    refine T_qEq ⟨by omega, by omega⟩ ⟨by decide, by decide⟩ (fun h2 => ?_) (fun h2 => ?_)
    ·
      refine T_some ?_
      show (-9 ≤ (-9) ∧ (-9) ≤ 7)
      exact (by omega)
    ·
      refine T_qEq ⟨by omega, by omega⟩ ⟨by decide, by decide⟩ (fun h3 => ?_) (fun h3 => ?_)
      ·
        refine T_some ?_
        show (-9 ≤ 7 ∧ 7 ≤ 7)
        exact (by omega)
      ·
        refine T_qEq ⟨by omega, by omega⟩ ⟨by decide, by decide⟩ (fun h4 => ?_) (fun h4 => ?_)
        ·
          refine T_some ?_
          show (-9 ≤ (-9) ∧ (-9) ≤ 7)
          exact (by omega)
        ·
          refine T_qEq ⟨by omega, by omega⟩ ⟨by decide, by decide⟩ (fun h5 => ?_) (fun h5 => ?_)
          ·
            refine T_some ?_
            show (-9 ≤ (-9) ∧ (-9) ≤ 7)
            exact (by omega)
          ·
            refine T_qEq ⟨by omega, by omega⟩ ⟨by decide, by decide⟩ (fun h6 => ?_) (fun h6 => ?_)
            ·
              refine T_some ?_
              show (-9 ≤ 4 ∧ 4 ≤ 7)
              exact (by omega)
            ·
              refine T_qEq ⟨by omega, by omega⟩ ⟨by decide, by decide⟩ (fun h7 => ?_) (fun h7 => ?_)
              ·
                refine T_some ?_
                show (-9 ≤ (-9) ∧ (-9) ≤ 7)
                exact (by omega)
              ·
                refine T_qEq ⟨by omega, by omega⟩ ⟨by decide, by decide⟩ (fun h8 => ?_) (fun h8 => ?_)
                ·
                  refine T_some ?_
                  show (-9 ≤ 3 ∧ 3 ≤ 7)
                  exact (by omega)
                ·
                  refine T_qEq ⟨by omega, by omega⟩ ⟨by decide, by decide⟩ (fun h9 => ?_) (fun h9 => ?_)
                  ·
                    refine T_some ?_
                    show (-9 ≤ 5 ∧ 5 ≤ 7)
                    exact (by omega)
                  ·
                    refine T_qEq ⟨by omega, by omega⟩ ⟨by decide, by decide⟩ (fun h10 => ?_) (fun h10 => ?_)
                    ·
                      refine T_some ?_
                      show (-9 ≤ (-9) ∧ (-9) ≤ 7)
                      exact (by omega)
                    ·
                      refine T_qEq ⟨by omega, by omega⟩ ⟨by decide, by decide⟩ (fun h11 => ?_) (fun h11 => ?_)
                      ·
                        refine T_some ?_
                        show (-9 ≤ 6 ∧ 6 ≤ 7)
                        exact (by omega)
                      ·
                        refine T_qEq ⟨by omega, by omega⟩ ⟨by decide, by decide⟩ (fun h12 => ?_) (fun h12 => ?_)
                        ·
                          refine T_some ?_
                          show (-9 ≤ (-9) ∧ (-9) ≤ 7)
                          exact (by omega)
                        ·
                          refine T_qEq ⟨by omega, by omega⟩ ⟨by decide, by decide⟩ (fun h13 => ?_) (fun h13 => ?_)
                          ·
                            refine T_some ?_
                            show (-9 ≤ (-9) ∧ (-9) ≤ 7)
                            exact (by omega)
                          ·
                            refine T_qEq ⟨by omega, by omega⟩ ⟨by decide, by decide⟩ (fun h14 => ?_) (fun h14 => ?_)
                            ·
                              refine T_some ?_
                              show (-9 ≤ 0 ∧ 0 ≤ 7)
                              exact (by omega)
                            ·
                              refine T_qEq ⟨by omega, by omega⟩ ⟨by decide, by decide⟩ (fun h15 => ?_) (fun h15 => ?_)
                              ·
                                refine T_some ?_
                                show (-9 ≤ 2 ∧ 2 ≤ 7)
                                exact (by omega)
                              ·
                                refine T_some ?_
                                show (-9 ≤ (-9) ∧ (-9) ≤ 7)
                                exact (by omega)
set_option maxRecDepth 20000 in
set_option maxHeartbeats 4000000 in
theorem tl_X12_reads_2 (x1 : Int) (i_o : OO) (i_x2 : Int) (hB_i_o : BoxM i_o) (k0 : 0 ≤ x1 ∧ x1 ≤ 3) (v0 : 0 ≤ i_x2 ∧ i_x2 ≤ 8) : T (loopW (fun s => l_X12_reads_2 x1 s.1 s.2) (i_o, i_x2)) (fun r => BoxM r ∧ (Fr [(10, 9999)] i_o r)) := by
  have fr_i_o : Fr [(10, 9999)] i_o i_o := Fr.rf
  refine T_loop (fun s => BoxM s.1 ∧ (Fr [(10, 9999)] i_o s.1) ∧ (0 ≤ s.2 ∧ s.2 ≤ 8)) (fun s => (8 - s.2).toNat) (by exact ⟨hB_i_o, fr_i_o, v0⟩) (fun s hs => ?_)
  obtain ⟨o, x2⟩ := s
  replace hs : BoxM o ∧ (Fr [(10, 9999)] i_o o) ∧ (0 ≤ x2 ∧ x2 ≤ 8) := hs
  obtain ⟨hB_o, fr_o, w0⟩ := hs
  show T (l_X12_reads_2 x1 o x2) _
  unfold l_X12_reads_2
  refine T_qLt ⟨by omega, by omega⟩ ⟨by decide, by decide⟩ (fun h1 => ?_) (fun h1 => ?_)
  ·
    refine T_qIn ⟨by omega, by omega⟩ ?_
    refine T_qNm (fun o21 e_o21 => ?_)
    have hB_o21 : BoxM o21 := by rw [e_o21]; exact Box.s1 hB_o (show -9 ≤ (-9) ∧ (-9) ≤ 9999 from ⟨by omega, by omega⟩)
    have fr_o21 : Fr [(10, 9999)] i_o o21 := by rw [e_o21]; exact Fr.s1 fr_o rfl
    refine T_some ?_
    show (BoxM o21 ∧ (Fr [(10, 9999)] i_o o21) ∧ (0 ≤ (x2 + 1) ∧ (x2 + 1) ≤ 8)) ∧ (8 - (x2 + 1)).toNat < (8 - x2).toNat
    exact ⟨⟨hB_o21, fr_o21, (by omega)⟩, by omega⟩
  ·
    refine T_some ?_
    show BoxM o ∧ (Fr [(10, 9999)] i_o o)
    exact ⟨hB_o, fr_o⟩
set_option maxRecDepth 20000 in
set_option maxHeartbeats 4000000 in
theorem tl_X12_reads_76 (o : OO) (x1 : Int) (x3 : Int) (i_x2 : Int) (i_x4 : Int) (i_x5 : Int) (hB_o : BoxM o) (k0 : 0 ≤ x1 ∧ x1 ≤ 3) (v0 : 0 ≤ i_x2 ∧ i_x2 ≤ 40) (v1 : i_x2 ≤ i_x2) (v2 : 0 ≤ i_x5) (v3 : i_x4 = 0 ∧ i_x5 = 0 ∨ i_x4 = 1 ∧ i_x5 ≤ 9 ∨ i_x4 = 2 ∧ i_x5 ≤ 99 ∨ i_x4 = 3 ∧ i_x5 ≤ 999 ∨ i_x4 = 4 ∧ i_x5 ≤ 9999) : T (loopW (fun s => l_X12_reads_76 o x1 x3 s.1 s.2.1 s.2.2) (i_x2, i_x4, i_x5)) (fun r => (0 ≤ r.1 ∧ r.1 ≤ 40) ∧ (i_x2 ≤ r.1) ∧ (0 ≤ r.2.1 ∧ r.2.1 ≤ 4) ∧ (0 ≤ r.2.2 ∧ r.2.2 ≤ 9999)) := by
  refine T_loop (fun s => (0 ≤ s.1 ∧ s.1 ≤ 40) ∧ (i_x2 ≤ s.1) ∧ (0 ≤ s.2.2) ∧ (s.2.1 = 0 ∧ s.2.2 = 0 ∨ s.2.1 = 1 ∧ s.2.2 ≤ 9 ∨ s.2.1 = 2 ∧ s.2.2 ≤ 99 ∨ s.2.1 = 3 ∧ s.2.2 ≤ 999 ∨ s.2.1 = 4 ∧ s.2.2 ≤ 9999)) (fun s => (40 - s.1).toNat) (by exact ⟨v0, v1, v2, v3⟩) (fun s hs => ?_)
  obtain ⟨x2, x4, x5⟩ := s
  replace hs : (0 ≤ x2 ∧ x2 ≤ 40) ∧ (i_x2 ≤ x2) ∧ (0 ≤ x5) ∧ (x4 = 0 ∧ x5 = 0 ∨ x4 = 1 ∧ x5 ≤ 9 ∨ x4 = 2 ∧ x5 ≤ 99 ∨ x4 = 3 ∧ x5 ≤ 999 ∨ x4 = 4 ∧ x5 ≤ 9999) := hs
  obtain ⟨w0, w1, w2, w3⟩ := hs
  show T (l_X12_reads_76 o x1 x3 x2 x4 x5) _
  unfold l_X12_reads_76
  refine T_qIn ⟨by omega, by omega⟩ ?_
  refine T_qNm (fun n6 e_n6 => ?_)
  have b_n6 : -9 ≤ n6 ∧ n6 ≤ 40 := by rw [e_n6]; exact bM_5 hB_o _
  refine T_qLt ⟨by omega, by omega⟩ ⟨by omega, by omega⟩ (fun h2 => ?_) (fun h2 => ?_)
  ·
    refine T_qLt ⟨by omega, by omega⟩ ⟨by decide, by decide⟩ (fun h3 => ?_) (fun h3 => ?_)
    ·
      refine T_qIn ⟨by omega, by omega⟩ ?_
      refine T_qNm (fun n8 e_n8 => ?_)
      have b_n8 : -128 ≤ n8 ∧ n8 ≤ 127 := by rw [e_n8]; exact bM_6 hB_o _
      refine T_qB (t_X12_in n8 48 57 (by omega) (by omega) (by omega)) (fun r9 hc_r9 hp4 => ?_)
      replace hp4 : ((r9 = 1 ∧ 48 ≤ n8 ∧ n8 ≤ 57) ∨ (r9 = 0 ∧ (n8 < 48 ∨ 57 < n8))) := hp4
      refine T_qEq ⟨by omega, by omega⟩ ⟨by decide, by decide⟩ (fun h5 => ?_) (fun h5 => ?_)
      ·
        refine T_some ?_
        show (0 ≤ x2 ∧ x2 ≤ 40) ∧ (i_x2 ≤ x2) ∧ (0 ≤ x4 ∧ x4 ≤ 4) ∧ (0 ≤ x5 ∧ x5 ≤ 9999)
        exact ⟨(by omega), (by omega), (by omega), (by omega)⟩
      ·
        refine T_qIn ⟨by omega, by omega⟩ ?_
        refine T_qNm (fun n12 e_n12 => ?_)
        have b_n12 : -128 ≤ n12 ∧ n12 ≤ 127 := by rw [e_n12]; exact bM_6 hB_o _
        refine T_qNm (fun n13 e_n13 => ?_)
        refine T_some ?_
        show ((0 ≤ (x2 + 1) ∧ (x2 + 1) ≤ 40) ∧ (i_x2 ≤ (x2 + 1)) ∧ (0 ≤ n13) ∧ ((x4 + 1) = 0 ∧ n13 = 0 ∨ (x4 + 1) = 1 ∧ n13 ≤ 9 ∨ (x4 + 1) = 2 ∧ n13 ≤ 99 ∨ (x4 + 1) = 3 ∧ n13 ≤ 999 ∨ (x4 + 1) = 4 ∧ n13 ≤ 9999)) ∧ (40 - (x2 + 1)).toNat < (40 - x2).toNat
        exact ⟨⟨(by omega), (by omega), (by omega), (by omega)⟩, by omega⟩
    ·
      refine T_some ?_
      show (0 ≤ x2 ∧ x2 ≤ 40) ∧ (i_x2 ≤ x2) ∧ (0 ≤ x4 ∧ x4 ≤ 4) ∧ (0 ≤ x5 ∧ x5 ≤ 9999)
      exact ⟨(by omega), (by omega), (by omega), (by omega)⟩
  ·
    refine T_some ?_
    show (0 ≤ x2 ∧ x2 ≤ 40) ∧ (i_x2 ≤ x2) ∧ (0 ≤ x4 ∧ x4 ≤ 4) ∧ (0 ≤ x5 ∧ x5 ≤ 9999)
    exact ⟨(by omega), (by omega), (by omega), (by omega)⟩
set_option maxRecDepth 20000 in
set_option maxHeartbeats 4000000 in
theorem tl_X12_reads_24 (x1 : Int) (i_o : OO) (i_x2 : Int) (hB_i_o : BoxM i_o) (k0 : 0 ≤ x1 ∧ x1 ≤ 3) (v0 : 0 ≤ i_x2 ∧ i_x2 ≤ 40) : T (loopW (fun s => l_X12_reads_24 x1 s.1 s.2) (i_o, i_x2)) (Sum.elim (fun r => BoxM r.1 ∧ (Fr [(10, 9999)] i_o r.1) ∧ (0 ≤ r.2 ∧ r.2 ≤ 40)) (Sum.elim (fun r => BoxM r.1 ∧ (Fr [(10, 9999)] i_o r.1) ∧ (0 ≤ r.2 ∧ r.2 ≤ 40)) (fun r => BoxM r ∧ (Fr [(10, 9999)] i_o r)))) := by
  have fr_i_o : Fr [(10, 9999)] i_o i_o := Fr.rf
  refine T_loop (fun s => BoxM s.1 ∧ (Fr [(10, 9999)] i_o s.1) ∧ (0 ≤ s.2 ∧ s.2 ≤ 40)) (fun s => (40 - s.2).toNat) (by exact ⟨hB_i_o, fr_i_o, v0⟩) (fun s hs => ?_)
  obtain ⟨o, x2⟩ := s
  replace hs : BoxM o ∧ (Fr [(10, 9999)] i_o o) ∧ (0 ≤ x2 ∧ x2 ≤ 40) := hs
  obtain ⟨hB_o, fr_o, w0⟩ := hs
  show T (l_X12_reads_24 x1 o x2) _
  unfold l_X12_reads_24
  refine T_qIn ⟨by omega, by omega⟩ ?_
  refine T_qNm (fun n15 e_n15 => ?_)
  have b_n15 : -9 ≤ n15 ∧ n15 ≤ 40 := by rw [e_n15]; exact bM_5 hB_o _
  refine T_qLt ⟨by omega, by omega⟩ ⟨by omega, by omega⟩ (fun h6 => ?_) (fun h6 => ?_)
  ·
    refine T_qIn ⟨by omega, by omega⟩ ?_
    refine T_qNm (fun n17 e_n17 => ?_)
    have b_n17 : -128 ≤ n17 ∧ n17 ≤ 127 := by rw [e_n17]; exact bM_6 hB_o _
    refine T_qEq ⟨by omega, by omega⟩ ⟨by decide, by decide⟩ (fun h7 => ?_) (fun h7 => ?_)
    ·
      refine T_some ?_
      show (BoxM o ∧ (Fr [(10, 9999)] i_o o) ∧ (0 ≤ (x2 + 1) ∧ (x2 + 1) ≤ 40)) ∧ (40 - (x2 + 1)).toNat < (40 - x2).toNat
      exact ⟨⟨hB_o, fr_o, (by omega)⟩, by omega⟩
    ·
      refine T_qB (t_X12_letter n17 (by omega)) (fun r18 hc_r18 hp8 => ?_)
      replace hp8 : (-9 ≤ r18 ∧ r18 ≤ 7) := hp8
      refine T_qLt ⟨by omega, by omega⟩ ⟨by decide, by decide⟩ (fun h9 => ?_) (fun h9 => ?_)
      ·
        refine T_some ?_
        show BoxM o ∧ (Fr [(10, 9999)] i_o o) ∧ (0 ≤ x2 ∧ x2 ≤ 40)
        exact ⟨hB_o, fr_o, (by omega)⟩
      ·
        unfold e_X12_reads_76
        refine T_qB (tl_X12_reads_76 o x1 n17 (x2 + 1) 0 0 hB_o (by omega) (by omega) (by omega) (by omega) (by omega)) (fun r10 hc_r10 hp11 => ?_)
        obtain ⟨x2_12, x4_13, x5_14⟩ := r10
        replace hp11 : (0 ≤ x2_12 ∧ x2_12 ≤ 40) ∧ ((x2 + 1) ≤ x2_12) ∧ (0 ≤ x4_13 ∧ x4_13 ≤ 4) ∧ (0 ≤ x5_14 ∧ x5_14 ≤ 9999) := hp11
        have hps_hp11 := hp11
        obtain ⟨hp11_0, hp11_1, hp11_2, hp11_3⟩ := hps_hp11
        replace hp11 := hid hp11
        show T (b_X12_reads_144 o x1 x2_12 n17 x4_13 x5_14) _
        unfold b_X12_reads_144
        refine T_qEq ⟨by omega, by omega⟩ ⟨by decide, by decide⟩ (fun h15 => ?_) (fun h15 => ?_)
        ·
          refine T_some ?_
          show BoxM o ∧ (Fr [(10, 9999)] i_o o) ∧ (0 ≤ x2_12 ∧ x2_12 ≤ 40)
          exact ⟨hB_o, fr_o, (by omega)⟩
        ·
          refine T_qB (t_X12_letter n17 (by omega)) (fun r1 hc_r1 hp16 => ?_)
          replace hp16 : (-9 ≤ r1 ∧ r1 ≤ 7) := hp16
          have hq9 := Option.some.inj (hc_r1.symm.trans hc_r18)
          refine T_qIn ⟨by omega, by omega⟩ ?_
          refine T_qNm (fun o4 e_o4 => ?_)
          have hB_o4 : BoxM o4 := by rw [e_o4]; exact Box.s1 hB_o (show -9 ≤ x5_14 ∧ x5_14 ≤ 9999 from ⟨by omega, by omega⟩)
          have fr_o4 : Fr [(10, 9999)] i_o o4 := by rw [e_o4]; exact Fr.s1 fr_o rfl
          refine T_some ?_
          show (BoxM o4 ∧ (Fr [(10, 9999)] i_o o4) ∧ (0 ≤ x2_12 ∧ x2_12 ≤ 40)) ∧ (40 - x2_12).toNat < (40 - x2).toNat
          exact ⟨⟨hB_o4, fr_o4, (by omega)⟩, by omega⟩
  ·
    refine T_some ?_
    show BoxM o ∧ (Fr [(10, 9999)] i_o o)
    exact ⟨hB_o, fr_o⟩
set_option maxRecDepth 20000 in
set_option maxHeartbeats 4000000 in
theorem t_X12_reads (o : OO) (x1 : Int) (hB_o : BoxM o) (k0 : 0 ≤ x1 ∧ x1 ≤ 3) : T (s_X12_reads o x1) (fun v => BoxM v.2 ∧ (Fr [(10, 9999)] o v.2) ∧ (-9 ≤ v.1 ∧ v.1 ≤ 40)) := by
  have fr_o : Fr [(10, 9999)] o o := Fr.rf
  unfold s_X12_reads
  unfold e_X12_reads_2
  refine T_qB (tl_X12_reads_2 x1 o 0 hB_o (by omega) (by omega)) (fun r17 hc_r17 hp18 => ?_)
  obtain ⟨o_19, q_o_19⟩ : ∃ q, q = r17 := ⟨_, rfl⟩
  subst q_o_19
  replace hp18 : BoxM o_19 ∧ (Fr [(10, 9999)] o o_19) := hp18
  have hps_hp18 := hp18
  obtain ⟨hp18_0, hp18_1⟩ := hps_hp18
  obtain ⟨hB_o_19, fc_o_19⟩ := hp18
  have fr_o_19 : Fr [(10, 9999)] o o_19 := Fr.tr fr_o fc_o_19 rfl
  show T (b_X12_reads_22 o_19 x1) _
  unfold b_X12_reads_22
  unfold e_X12_reads_24
  refine T_qB (tl_X12_reads_24 x1 o_19 0 hB_o_19 (by omega) (by omega)) (fun r20 hc_r20 hp21 => ?_)
  rcases r20 with r20 | r20 | r20
  ·
    obtain ⟨o_22, x2_23⟩ := r20
    replace hp21 : BoxM o_22 ∧ (Fr [(10, 9999)] o_19 o_22) ∧ (0 ≤ x2_23 ∧ x2_23 ≤ 40) := hp21
    have hps_hp21 := hp21
    obtain ⟨hp21_0, hp21_1, hp21_2⟩ := hps_hp21
    obtain ⟨hB_o_22, fc_o_22, hp21⟩ := hp21
    replace hp21 := hid hp21
    have fr_o_22 : Fr [(10, 9999)] o o_22 := Fr.tr fr_o_19 fc_o_22 rfl
    show T (b_X12_reads_65 o_22 x2_23) _
    unfold b_X12_reads_65
    refine T_some ?_
    show BoxM o_22 ∧ (Fr [(10, 9999)] o o_22) ∧ (-9 ≤ x2_23 ∧ x2_23 ≤ 40)
    exact ⟨hB_o_22, fr_o_22, (by omega)⟩
  ·
    obtain ⟨o_24, x2_25⟩ := r20
    replace hp21 : BoxM o_24 ∧ (Fr [(10, 9999)] o_19 o_24) ∧ (0 ≤ x2_25 ∧ x2_25 ≤ 40) := hp21
    have hps_hp21 := hp21
    obtain ⟨hp21_0, hp21_1, hp21_2⟩ := hps_hp21
    obtain ⟨hB_o_24, fc_o_24, hp21⟩ := hp21
    replace hp21 := hid hp21
    have fr_o_24 : Fr [(10, 9999)] o o_24 := Fr.tr fr_o_19 fc_o_24 rfl
    show T (b_X12_reads_149 o_24 x2_25) _
    unfold b_X12_reads_149
    refine T_some ?_
    show BoxM o_24 ∧ (Fr [(10, 9999)] o o_24) ∧ (-9 ≤ x2_25 ∧ x2_25 ≤ 40)
    exact ⟨hB_o_24, fr_o_24, (by omega)⟩
  ·
    obtain ⟨o_26, q_o_26⟩ : ∃ q, q = r20 := ⟨_, rfl⟩
    subst q_o_26
    replace hp21 : BoxM o_26 ∧ (Fr [(10, 9999)] o_19 o_26) := hp21
    have hps_hp21 := hp21
    obtain ⟨hp21_0, hp21_1⟩ := hps_hp21
    obtain ⟨hB_o_26, fc_o_26⟩ := hp21
    have fr_o_26 : Fr [(10, 9999)] o o_26 := Fr.tr fr_o_19 fc_o_26 rfl
    show T (b_X12_reads_165 o_26) _
    unfold b_X12_reads_165
    refine T_some ?_
    show BoxM o_26 ∧ (Fr [(10, 9999)] o o_26) ∧ (-9 ≤ (-9) ∧ (-9) ≤ 40)
    exact ⟨hB_o_26, fr_o_26, (by omega)⟩
set_option maxRecDepth 20000 in
set_option maxHeartbeats 4000000 in
theorem t_X12_fault (o : OO) (x1 : Int) (hB_o : BoxM o) (k0 : inR x1) : T (s_X12_fault o x1) (fun v => BoxM v.2 ∧ (Fr [(0, 0), (1, 9999), (10, 9999)] o v.2)) := by
  have fr_o : Fr [(0, 0), (1, 9999), (10, 9999)] o o := Fr.rf
  unfold s_X12_fault
  refine T_qB2 (t_X12_askedText o x1 hB_o (by omega)) (fun r1 o3 hc_r1 hp1 => ?_)
  replace hp1 : BoxM o3 ∧ (Fr [(0, 0), (1, 9999)] o o3) ∧ (r1 = -1 ∨ r1 = -3 ∨ (r1 = 0 ∧ 0 ≤ x1 ∧ x1 ≤ 3 ∧ 0 ≤ o3.1 5 x1.toNat)) := hp1
  obtain ⟨hB_o3, fc_o3, hp1⟩ := hp1
  have fr_o3 : Fr [(0, 0), (1, 9999), (10, 9999)] o o3 := Fr.tr fr_o fc_o3 rfl
  refine T_qLt ⟨by omega, by omega⟩ ⟨by decide, by decide⟩ (fun h2 => ?_) (fun h2 => ?_)
  ·
    unfold b_X12_fault_19
    refine T_some ?_
    show BoxM o3 ∧ (Fr [(0, 0), (1, 9999), (10, 9999)] o o3)
    exact ⟨hB_o3, fr_o3⟩
  ·
    refine T_qB2 (t_X12_reads o3 x1 hB_o3 (by omega)) (fun r4 o6 hc_r4 hp3 => ?_)
    replace hp3 : BoxM o6 ∧ (Fr [(10, 9999)] o3 o6) ∧ (-9 ≤ r4 ∧ r4 ≤ 40) := hp3
    obtain ⟨hB_o6, fc_o6, hp3⟩ := hp3
    have fr_o6 : Fr [(0, 0), (1, 9999), (10, 9999)] o o6 := Fr.tr fr_o3 fc_o6 rfl
    unfold b_X12_fault_19
    refine T_some ?_
    show BoxM o6 ∧ (Fr [(0, 0), (1, 9999), (10, 9999)] o o6)
    exact ⟨hB_o6, fr_o6⟩
set_option maxRecDepth 20000 in
set_option maxHeartbeats 4000000 in
theorem t_X12_finding (o : OO) (hB_o : BoxM o) : T (s_X12_finding o) (fun _ => True) := by
  have g0_0_o := bM_0_0 hB_o
  unfold s_X12_finding
  refine T_some ?_
  show True
  exact trivial
set_option maxRecDepth 20000 in
set_option maxHeartbeats 4000000 in
theorem t_X12_findings (o : OO) (x1 : Int) (hB_o : BoxM o) (k0 : inR x1) : T (s_X12_findings o x1) (fun _ => True) := by
  unfold s_X12_findings
  refine T_qB (t_X12_in x1 1 5 (by omega) (by omega) (by omega)) (fun r1 hc_r1 hp1 => ?_)
  replace hp1 : ((r1 = 1 ∧ 1 ≤ x1 ∧ x1 ≤ 5) ∨ (r1 = 0 ∧ (x1 < 1 ∨ 5 < x1))) := hp1
  refine T_qEq ⟨by omega, by omega⟩ ⟨by decide, by decide⟩ (fun h2 => ?_) (fun h2 => ?_)
  ·
    unfold b_X12_findings_19
    refine T_some ?_
    show True
    exact trivial
  ·
    refine T_qIn ⟨by omega, by omega⟩ ?_
    refine T_qNm (fun n4 e_n4 => ?_)
    unfold b_X12_findings_19
    refine T_some ?_
    show True
    exact trivial
set_option maxRecDepth 20000 in
set_option maxHeartbeats 4000000 in
theorem t_X12_isDay (x0 : Int) (k0 : inR x0) : T (s_X12_isDay x0) (fun v => ((v = 1 ∧ 0 ≤ x0 ∧ x0 ≤ 999) ∨ (v = 0 ∧ (x0 < 0 ∨ 999 < x0)))) := by
  unfold s_X12_isDay
  refine T_qB (t_X12_in x0 0 999 (by omega) (by omega) (by omega)) (fun r1 hc_r1 hp1 => ?_)
  replace hp1 : ((r1 = 1 ∧ 0 ≤ x0 ∧ x0 ≤ 999) ∨ (r1 = 0 ∧ (x0 < 0 ∨ 999 < x0))) := hp1
  refine T_qZ (by omega) ?_
  refine T_some ?_
  show ((r1 = 1 ∧ 0 ≤ x0 ∧ x0 ≤ 999) ∨ (r1 = 0 ∧ (x0 < 0 ∨ 999 < x0)))
  exact (by omega)
set_option maxRecDepth 20000 in
set_option maxHeartbeats 4000000 in
theorem t_X12_isAsked (x0 : Int) (x1 : Int) (x2 : Int) (k0 : inR x0) (k1 : inR x1) (k2 : inR x2) : T (s_X12_isAsked x0 x1 x2) (fun v => ((v = 1 ∧ 0 ≤ x0 ∧ x0 ≤ 7) ∨ v = 0)) := by
  unfold s_X12_isAsked
  refine T_qB (t_X12_in x0 0 7 (by omega) (by omega) (by omega)) (fun r1 hc_r1 hp1 => ?_)
  replace hp1 : ((r1 = 1 ∧ 0 ≤ x0 ∧ x0 ≤ 7) ∨ (r1 = 0 ∧ (x0 < 0 ∨ 7 < x0))) := hp1
  refine T_qEq ⟨by omega, by omega⟩ ⟨by decide, by decide⟩ (fun h2 => ?_) (fun h2 => ?_)
  ·
    unfold b_X12_isAsked_28
    unfold b_X12_isAsked_29
    refine T_qZ (Or.inl rfl) ?_
    refine T_some ?_
    show ((0 = 1 ∧ 0 ≤ x0 ∧ x0 ≤ 7) ∨ 0 = 0)
    exact (by omega)
  ·
    refine T_qB (t_X12_isDay x1 (by omega)) (fun r3 hc_r3 hp3 => ?_)
    replace hp3 : ((r3 = 1 ∧ 0 ≤ x1 ∧ x1 ≤ 999) ∨ (r3 = 0 ∧ (x1 < 0 ∨ 999 < x1))) := hp3
    refine T_qEq ⟨by omega, by omega⟩ ⟨by decide, by decide⟩ (fun h4 => ?_) (fun h4 => ?_)
    ·
      unfold b_X12_isAsked_28
      unfold b_X12_isAsked_29
      refine T_qZ (Or.inl rfl) ?_
      refine T_some ?_
      show ((0 = 1 ∧ 0 ≤ x0 ∧ x0 ≤ 7) ∨ 0 = 0)
      exact (by omega)
    ·
      refine T_qB (t_X12_isDay x2 (by omega)) (fun r5 hc_r5 hp5 => ?_)
      replace hp5 : ((r5 = 1 ∧ 0 ≤ x2 ∧ x2 ≤ 999) ∨ (r5 = 0 ∧ (x2 < 0 ∨ 999 < x2))) := hp5
      refine T_qEq ⟨by omega, by omega⟩ ⟨by decide, by decide⟩ (fun h6 => ?_) (fun h6 => ?_)
      ·
        unfold b_X12_isAsked_28
        unfold b_X12_isAsked_29
        refine T_qZ (Or.inl rfl) ?_
        refine T_some ?_
        show ((0 = 1 ∧ 0 ≤ x0 ∧ x0 ≤ 7) ∨ 0 = 0)
        exact (by omega)
      ·
        unfold b_X12_isAsked_29
        refine T_qZ (Or.inr rfl) ?_
        refine T_some ?_
        show ((1 = 1 ∧ 0 ≤ x0 ∧ x0 ≤ 7) ∨ 1 = 0)
        exact (by omega)
set_option maxRecDepth 20000 in
set_option maxHeartbeats 4000000 in
theorem t_X12_force (o : OO) (x1 : Int) (x2 : Int) (x3 : Int) (hB_o : BoxM o) (k0 : inR x1) (k1 : inR x2) (k2 : inR x3) : T (s_X12_force o x1 x2 x3) (fun _ => True) := by
  unfold s_X12_force
  refine T_qB (t_X12_isAsked x1 x2 x3 (by omega) (by omega) (by omega)) (fun r1 hc_r1 hp1 => ?_)
  replace hp1 : ((r1 = 1 ∧ 0 ≤ x1 ∧ x1 ≤ 7) ∨ r1 = 0) := hp1
  refine T_qEq ⟨by omega, by omega⟩ ⟨by decide, by decide⟩ (fun h2 => ?_) (fun h2 => ?_)
  ·
    unfold b_X12_force_20
    refine T_some ?_
    show True
    exact trivial
  ·
    refine T_qB (t_X12_inForce o x1 x2 x3 hB_o (by omega) (by omega) (by omega)) (fun r3 hc_r3 hp3 => ?_)
    replace hp3 : (0 ≤ r3 ∧ r3 ≤ 9999) := hp3
    unfold b_X12_force_20
    refine T_some ?_
    show True
    exact trivial
set_option maxRecDepth 20000 in
set_option maxHeartbeats 4000000 in
theorem t_X12_enter (o : OO) (x1 : Int) (x2 : Int) (hB_o : BoxM o) (k0 : 0 ≤ x1 ∧ x1 ≤ 6) (k1 : -9 ≤ x2 ∧ x2 ≤ 23) (k2 : o.1 0 32 ≤ 23) : T (s_X12_enter o x1 x2) (fun v => BoxM v.2 ∧ (Fr [(0, 32), (25, 9999), (26, 9999), (27, 9999), (29, 9999), (30, 9999)] o v.2) ∧ (v.1 = o.1 0 32) ∧ (v.2.1 0 32 = o.1 0 32 + 1)) := by
  have fr_o : Fr [(0, 32), (25, 9999), (26, 9999), (27, 9999), (29, 9999), (30, 9999)] o o := Fr.rf
  have g0_32_o := bM_0_32 hB_o
  have g0_4_o := bM_0_4 hB_o
  unfold s_X12_enter
  refine T_qIn ⟨by omega, by omega⟩ ?_
  refine T_qNm (fun o2 e_o2 => ?_)
  have hB_o2 : BoxM o2 := by rw [e_o2]; exact Box.s1 hB_o (show 0 ≤ x1 ∧ x1 ≤ 6 from ⟨by omega, by omega⟩)
  have fr_o2 : Fr [(0, 32), (25, 9999), (26, 9999), (27, 9999), (29, 9999), (30, 9999)] o o2 := by rw [e_o2]; exact Fr.s1 fr_o rfl
  have g0_32_o2 : o2.1 0 32 = o.1 0 32 := by rw [e_o2]; rfl
  have g0_4_o2 : o2.1 0 4 = o.1 0 4 := by rw [e_o2]; rfl
  refine T_qIn ⟨by omega, by omega⟩ ?_
  refine T_qNm (fun o4 e_o4 => ?_)
  have hB_o4 : BoxM o4 := by rw [e_o4]; exact Box.s1 hB_o2 (show 0 ≤ (o2.1 0 4) ∧ (o2.1 0 4) ≤ 999 from ⟨by omega, by omega⟩)
  have fr_o4 : Fr [(0, 32), (25, 9999), (26, 9999), (27, 9999), (29, 9999), (30, 9999)] o o4 := by rw [e_o4]; exact Fr.s1 fr_o2 rfl
  have g0_32_o4 : o4.1 0 32 = o2.1 0 32 := by rw [e_o4]; rfl
  have g0_4_o4 : o4.1 0 4 = o2.1 0 4 := by rw [e_o4]; rfl
  refine T_qIn ⟨by omega, by omega⟩ ?_
  refine T_qNm (fun o6 e_o6 => ?_)
  have hB_o6 : BoxM o6 := by rw [e_o6]; exact Box.s1 hB_o4 (show -9 ≤ x2 ∧ x2 ≤ 23 from ⟨by omega, by omega⟩)
  have fr_o6 : Fr [(0, 32), (25, 9999), (26, 9999), (27, 9999), (29, 9999), (30, 9999)] o o6 := by rw [e_o6]; exact Fr.s1 fr_o4 rfl
  have g0_32_o6 : o6.1 0 32 = o4.1 0 32 := by rw [e_o6]; rfl
  have g0_4_o6 : o6.1 0 4 = o4.1 0 4 := by rw [e_o6]; rfl
  refine T_qIn ⟨by omega, by omega⟩ ?_
  refine T_qNm (fun o8 e_o8 => ?_)
  have hB_o8 : BoxM o8 := by rw [e_o8]; exact Box.s1 hB_o6 (show -9 ≤ (-9) ∧ (-9) ≤ 999 from ⟨by omega, by omega⟩)
  have fr_o8 : Fr [(0, 32), (25, 9999), (26, 9999), (27, 9999), (29, 9999), (30, 9999)] o o8 := by rw [e_o8]; exact Fr.s1 fr_o6 rfl
  have g0_32_o8 : o8.1 0 32 = o6.1 0 32 := by rw [e_o8]; rfl
  have g0_4_o8 : o8.1 0 4 = o6.1 0 4 := by rw [e_o8]; rfl
  refine T_qIn ⟨by omega, by omega⟩ ?_
  refine T_qNm (fun o10 e_o10 => ?_)
  have hB_o10 : BoxM o10 := by rw [e_o10]; exact Box.s1 hB_o8 (show 0 ≤ 0 ∧ 0 ≤ 64 from ⟨by omega, by omega⟩)
  have fr_o10 : Fr [(0, 32), (25, 9999), (26, 9999), (27, 9999), (29, 9999), (30, 9999)] o o10 := by rw [e_o10]; exact Fr.s1 fr_o8 rfl
  have g0_32_o10 : o10.1 0 32 = o8.1 0 32 := by rw [e_o10]; rfl
  have g0_4_o10 : o10.1 0 4 = o8.1 0 4 := by rw [e_o10]; rfl
  refine T_qNm (fun o11 e_o11 => ?_)
  have hB_o11 : BoxM o11 := by rw [e_o11]; exact Box.s1 hB_o10 (show 0 ≤ ((o10.1 0 32) + 1) ∧ ((o10.1 0 32) + 1) ≤ 24 from ⟨by omega, by omega⟩)
  have fr_o11 : Fr [(0, 32), (25, 9999), (26, 9999), (27, 9999), (29, 9999), (30, 9999)] o o11 := by rw [e_o11]; exact Fr.s1 fr_o10 rfl
  have g0_32_o11 : o11.1 0 32 = ((o10.1 0 32) + 1) := by rw [e_o11]; rfl
  have g0_4_o11 : o11.1 0 4 = o10.1 0 4 := by rw [e_o11]; rfl
  refine T_some ?_
  show BoxM o11 ∧ (Fr [(0, 32), (25, 9999), (26, 9999), (27, 9999), (29, 9999), (30, 9999)] o o11) ∧ (((o11.1 0 32) - 1) = o.1 0 32) ∧ (o11.1 0 32 = o.1 0 32 + 1)
  exact ⟨hB_o11, fr_o11, (by omega), (by omega)⟩
set_option maxRecDepth 20000 in
set_option maxHeartbeats 4000000 in
theorem t_X12_grant (o : OO) (x1 : Int) (x2 : Int) (hB_o : BoxM o) (k0 : inR x1) (k1 : inR x2) : T (s_X12_grant o x1 x2) (fun v => BoxM v.2 ∧ (Fr [(0, 32), (25, 9999), (26, 9999), (27, 9999), (29, 9999), (30, 9999), (35, 9999), (36, 9999)] o v.2)) := by
  have fr_o : Fr [(0, 32), (25, 9999), (26, 9999), (27, 9999), (29, 9999), (30, 9999), (35, 9999), (36, 9999)] o o := Fr.rf
  have g0_32_o := bM_0_32 hB_o
  unfold s_X12_grant
  refine T_qB (t_X12_in x1 1 10 (by omega) (by omega) (by omega)) (fun r1 hc_r1 hp1 => ?_)
  replace hp1 : ((r1 = 1 ∧ 1 ≤ x1 ∧ x1 ≤ 10) ∨ (r1 = 0 ∧ (x1 < 1 ∨ 10 < x1))) := hp1
  refine T_qEq ⟨by omega, by omega⟩ ⟨by decide, by decide⟩ (fun h2 => ?_) (fun h2 => ?_)
  ·
    unfold b_X12_grant_17
    refine T_some ?_
    show BoxM o ∧ (Fr [(0, 32), (25, 9999), (26, 9999), (27, 9999), (29, 9999), (30, 9999), (35, 9999), (36, 9999)] o o)
    exact ⟨hB_o, fr_o⟩
  ·
    refine T_qB (t_X12_isDay x2 (by omega)) (fun r3 hc_r3 hp3 => ?_)
    replace hp3 : ((r3 = 1 ∧ 0 ≤ x2 ∧ x2 ≤ 999) ∨ (r3 = 0 ∧ (x2 < 0 ∨ 999 < x2))) := hp3
    refine T_qEq ⟨by omega, by omega⟩ ⟨by decide, by decide⟩ (fun h4 => ?_) (fun h4 => ?_)
    ·
      unfold b_X12_grant_17
      refine T_some ?_
      show BoxM o ∧ (Fr [(0, 32), (25, 9999), (26, 9999), (27, 9999), (29, 9999), (30, 9999), (35, 9999), (36, 9999)] o o)
      exact ⟨hB_o, fr_o⟩
    ·
      refine T_qEq ⟨by omega, by omega⟩ ⟨by decide, by decide⟩ (fun h5 => ?_) (fun h5 => ?_)
      ·
        refine T_some ?_
        show BoxM o ∧ (Fr [(0, 32), (25, 9999), (26, 9999), (27, 9999), (29, 9999), (30, 9999), (35, 9999), (36, 9999)] o o)
        exact ⟨hB_o, fr_o⟩
      ·
        refine T_qB2 (t_X12_enter o 5 (-9) hB_o (by omega) (by omega) (by omega)) (fun r5 o7 hc_r5 hp6 => ?_)
        replace hp6 : BoxM o7 ∧ (Fr [(0, 32), (25, 9999), (26, 9999), (27, 9999), (29, 9999), (30, 9999)] o o7) ∧ (r5 = o.1 0 32) ∧ (o7.1 0 32 = o.1 0 32 + 1) := hp6
        obtain ⟨hB_o7, fc_o7, hp6⟩ := hp6
        have fr_o7 : Fr [(0, 32), (25, 9999), (26, 9999), (27, 9999), (29, 9999), (30, 9999), (35, 9999), (36, 9999)] o o7 := Fr.tr fr_o fc_o7 rfl
        have g0_32_o7 := bM_0_32 hB_o7
        refine T_qIn ⟨by omega, by omega⟩ ?_
        refine T_qNm (fun o9 e_o9 => ?_)
        have hB_o9 : BoxM o9 := by rw [e_o9]; exact Box.s1 hB_o7 (show 0 ≤ x1 ∧ x1 ≤ 63 from ⟨by omega, by omega⟩)
        have fr_o9 : Fr [(0, 32), (25, 9999), (26, 9999), (27, 9999), (29, 9999), (30, 9999), (35, 9999), (36, 9999)] o o9 := by rw [e_o9]; exact Fr.s1 fr_o7 rfl
        have g0_32_o9 : o9.1 0 32 = o7.1 0 32 := by rw [e_o9]; rfl
        refine T_qIn ⟨by omega, by omega⟩ ?_
        refine T_qNm (fun o11 e_o11 => ?_)
        have hB_o11 : BoxM o11 := by rw [e_o11]; exact Box.s1 hB_o9 (show 0 ≤ x2 ∧ x2 ≤ 999 from ⟨by omega, by omega⟩)
        have fr_o11 : Fr [(0, 32), (25, 9999), (26, 9999), (27, 9999), (29, 9999), (30, 9999), (35, 9999), (36, 9999)] o o11 := by rw [e_o11]; exact Fr.s1 fr_o9 rfl
        have g0_32_o11 : o11.1 0 32 = o9.1 0 32 := by rw [e_o11]; rfl
        refine T_some ?_
        show BoxM o11 ∧ (Fr [(0, 32), (25, 9999), (26, 9999), (27, 9999), (29, 9999), (30, 9999), (35, 9999), (36, 9999)] o o11)
        exact ⟨hB_o11, fr_o11⟩
set_option maxRecDepth 20000 in
set_option maxHeartbeats 4000000 in
theorem t_X12_grants (o : OO) (x1 : Int) (x2 : Int) (hB_o : BoxM o) (k0 : inR x1) (k1 : inR x2) : T (s_X12_grants o x1 x2) (fun v => BoxM v.2 ∧ (Fr [(0, 0), (0, 2), (0, 64), (1, 9999)] o v.2)) := by
  have fr_o : Fr [(0, 0), (0, 2), (0, 64), (1, 9999)] o o := Fr.rf
  have g0_66_o := bM_0_66 hB_o
  have g0_4_o := bM_0_4 hB_o
  have g0_32_o := bM_0_32 hB_o
  unfold s_X12_grants
  refine T_qB (t_X12_isMark o x1 hB_o (by omega)) (fun r13 hc_r13 hp1 => ?_)
  replace hp1 : ((r13 = 1 ∧ 0 ≤ x1 ∧ x1 < o.1 0 32) ∨ (r13 = 0 ∧ (x1 < 0 ∨ o.1 0 32 ≤ x1))) := hp1
  refine T_qEq ⟨by omega, by omega⟩ ⟨by decide, by decide⟩ (fun h2 => ?_) (fun h2 => ?_)
  ·
    unfold b_X12_grants_16
    refine T_some ?_
    show BoxM o ∧ (Fr [(0, 0), (0, 2), (0, 64), (1, 9999)] o o)
    exact ⟨hB_o, fr_o⟩
  ·
    refine T_qB (t_X12_isMark o x2 hB_o (by omega)) (fun r15 hc_r15 hp3 => ?_)
    replace hp3 : ((r15 = 1 ∧ 0 ≤ x2 ∧ x2 < o.1 0 32) ∨ (r15 = 0 ∧ (x2 < 0 ∨ o.1 0 32 ≤ x2))) := hp3
    refine T_qEq ⟨by omega, by omega⟩ ⟨by decide, by decide⟩ (fun h4 => ?_) (fun h4 => ?_)
    ·
      unfold b_X12_grants_16
      refine T_some ?_
      show BoxM o ∧ (Fr [(0, 0), (0, 2), (0, 64), (1, 9999)] o o)
      exact ⟨hB_o, fr_o⟩
    ·
      refine T_qIn ⟨by omega, by omega⟩ ?_
      refine T_qNm (fun n18 e_n18 => ?_)
      have b_n18 : 0 ≤ n18 ∧ n18 ≤ 6 := by rw [e_n18]; exact bM_25 hB_o _
      refine T_qEq ⟨by omega, by omega⟩ ⟨by decide, by decide⟩ (fun h5 => ?_) (fun h5 => ?_)
      ·
        refine T_qB (t_X12_isLine o x2 hB_o (by omega)) (fun r19 hc_r19 hp6 => ?_)
        replace hp6 : (0 ≤ r19 ∧ r19 ≤ 1) := hp6
        refine T_qEq ⟨by omega, by omega⟩ ⟨by decide, by decide⟩ (fun h7 => ?_) (fun h7 => ?_)
        ·
          unfold b_X12_grants_36
          refine T_qB2 (t_X12_meets o 3 hB_o (by omega)) (fun r1 o3 hc_r1 hp8 => ?_)
          replace hp8 : BoxM o3 ∧ (Fr [(0, 0), (1, 9999)] o o3) ∧ (r1 = -3) := hp8
          obtain ⟨hB_o3, fc_o3, hp8⟩ := hp8
          have fr_o3 : Fr [(0, 0), (0, 2), (0, 64), (1, 9999)] o o3 := Fr.tr fr_o fc_o3 rfl
          have g0_66_o3 : o3.1 0 66 = o.1 0 66 := fc_o3.1 0 66 rfl
          have g0_4_o3 : o3.1 0 4 = o.1 0 4 := fc_o3.1 0 4 rfl
          have g0_32_o3 : o3.1 0 32 = o.1 0 32 := fc_o3.1 0 32 rfl
          refine T_some ?_
          show BoxM o3 ∧ (Fr [(0, 0), (0, 2), (0, 64), (1, 9999)] o o3)
          exact ⟨hB_o3, fr_o3⟩
        ·
          refine T_qIn ⟨by omega, by omega⟩ ?_
          refine T_qNm (fun n22 e_n22 => ?_)
          have b_n22 : 0 ≤ n22 ∧ n22 ≤ 999 := by rw [e_n22]; exact bM_36 hB_o _
          refine T_qLt ⟨by omega, by omega⟩ ⟨by decide, by decide⟩ (fun h9 => ?_) (fun h9 => ?_)
          ·
            unfold b_X12_grants_66
            refine T_qNm (fun n8 e_n8 => ?_)
            refine T_qLt ⟨by omega, by omega⟩ ⟨by decide, by decide⟩ (fun h10 => ?_) (fun h10 => ?_)
            ·
              unfold b_X12_grants_96
              refine T_qNm (fun o7 e_o7 => ?_)
              have hB_o7 : BoxM o7 := by rw [e_o7]; exact Box.s2 hB_o
              have fr_o7 : Fr [(0, 0), (0, 2), (0, 64), (1, 9999)] o o7 := by rw [e_o7]; exact Fr.s2 fr_o rfl
              have g0_66_o7 : o7.1 0 66 = o.1 0 66 := by rw [e_o7]; rfl
              have g0_4_o7 : o7.1 0 4 = o.1 0 4 := by rw [e_o7]; rfl
              have g0_32_o7 : o7.1 0 32 = o.1 0 32 := by rw [e_o7]; rfl
              refine T_qLt ⟨by omega, by omega⟩ ⟨by decide, by decide⟩ (fun h11 => ?_) (fun h11 => ?_)
              ·
                unfold b_X12_grants_110
                refine T_qB2 (t_X12_ask o7 n8 0 hB_o7) (fun r4 o6 hc_r4 hp12 => ?_)
                replace hp12 : BoxM o6 ∧ (Fr [(0, 2)] o7 o6) ∧ (r4 = 0) := hp12
                obtain ⟨hB_o6, fc_o6, hp12⟩ := hp12
                have fr_o6 : Fr [(0, 0), (0, 2), (0, 64), (1, 9999)] o o6 := Fr.tr fr_o7 fc_o6 rfl
                have g0_66_o6 : o6.1 0 66 = o7.1 0 66 := fc_o6.1 0 66 rfl
                have g0_4_o6 : o6.1 0 4 = o7.1 0 4 := fc_o6.1 0 4 rfl
                have g0_32_o6 : o6.1 0 32 = o7.1 0 32 := fc_o6.1 0 32 rfl
                refine T_some ?_
                show BoxM o6 ∧ (Fr [(0, 0), (0, 2), (0, 64), (1, 9999)] o o6)
                exact ⟨hB_o6, fr_o6⟩
              ·
                unfold b_X12_grants_110
                refine T_qB2 (t_X12_ask o7 n8 1 hB_o7) (fun r4 o6 hc_r4 hp13 => ?_)
                replace hp13 : BoxM o6 ∧ (Fr [(0, 2)] o7 o6) ∧ (r4 = 1) := hp13
                obtain ⟨hB_o6, fc_o6, hp13⟩ := hp13
                have fr_o6 : Fr [(0, 0), (0, 2), (0, 64), (1, 9999)] o o6 := Fr.tr fr_o7 fc_o6 rfl
                have g0_66_o6 : o6.1 0 66 = o7.1 0 66 := fc_o6.1 0 66 rfl
                have g0_4_o6 : o6.1 0 4 = o7.1 0 4 := fc_o6.1 0 4 rfl
                have g0_32_o6 : o6.1 0 32 = o7.1 0 32 := fc_o6.1 0 32 rfl
                refine T_some ?_
                show BoxM o6 ∧ (Fr [(0, 0), (0, 2), (0, 64), (1, 9999)] o o6)
                exact ⟨hB_o6, fr_o6⟩
            ·
              refine T_qIn ⟨by omega, by omega⟩ ?_
              refine T_qNm (fun n10 e_n10 => ?_)
              have b_n10 : 0 ≤ n10 ∧ n10 ≤ 1000000 := by rw [e_n10]; exact bM_28 hB_o _
              refine T_qIn ⟨by omega, by omega⟩ ?_
              refine T_qNm (fun n12 e_n12 => ?_)
              have b_n12 : 0 ≤ n12 ∧ n12 ≤ 63 := by rw [e_n12]; exact bM_35 hB_o _
              unfold b_X12_grants_96
              refine T_qNm (fun o7 e_o7 => ?_)
              have hB_o7 : BoxM o7 := by rw [e_o7]; exact Box.s2 hB_o
              have fr_o7 : Fr [(0, 0), (0, 2), (0, 64), (1, 9999)] o o7 := by rw [e_o7]; exact Fr.s2 fr_o rfl
              have g0_66_o7 : o7.1 0 66 = o.1 0 66 := by rw [e_o7]; rfl
              have g0_4_o7 : o7.1 0 4 = o.1 0 4 := by rw [e_o7]; rfl
              have g0_32_o7 : o7.1 0 32 = o.1 0 32 := by rw [e_o7]; rfl
              refine T_qLt ⟨by omega, by omega⟩ ⟨by decide, by decide⟩ (fun h14 => ?_) (fun h14 => ?_)
              ·
                unfold b_X12_grants_110
                refine T_qB2 (t_X12_ask o7 n8 0 hB_o7) (fun r4 o6 hc_r4 hp15 => ?_)
                replace hp15 : BoxM o6 ∧ (Fr [(0, 2)] o7 o6) ∧ (r4 = 0) := hp15
                obtain ⟨hB_o6, fc_o6, hp15⟩ := hp15
                have fr_o6 : Fr [(0, 0), (0, 2), (0, 64), (1, 9999)] o o6 := Fr.tr fr_o7 fc_o6 rfl
                have g0_66_o6 : o6.1 0 66 = o7.1 0 66 := fc_o6.1 0 66 rfl
                have g0_4_o6 : o6.1 0 4 = o7.1 0 4 := fc_o6.1 0 4 rfl
                have g0_32_o6 : o6.1 0 32 = o7.1 0 32 := fc_o6.1 0 32 rfl
                refine T_some ?_
                show BoxM o6 ∧ (Fr [(0, 0), (0, 2), (0, 64), (1, 9999)] o o6)
                exact ⟨hB_o6, fr_o6⟩
              ·
                unfold b_X12_grants_110
                refine T_qB2 (t_X12_ask o7 n8 1 hB_o7) (fun r4 o6 hc_r4 hp16 => ?_)
                replace hp16 : BoxM o6 ∧ (Fr [(0, 2)] o7 o6) ∧ (r4 = 1) := hp16
                obtain ⟨hB_o6, fc_o6, hp16⟩ := hp16
                have fr_o6 : Fr [(0, 0), (0, 2), (0, 64), (1, 9999)] o o6 := Fr.tr fr_o7 fc_o6 rfl
                have g0_66_o6 : o6.1 0 66 = o7.1 0 66 := fc_o6.1 0 66 rfl
                have g0_4_o6 : o6.1 0 4 = o7.1 0 4 := fc_o6.1 0 4 rfl
                have g0_32_o6 : o6.1 0 32 = o7.1 0 32 := fc_o6.1 0 32 rfl
                refine T_some ?_
                show BoxM o6 ∧ (Fr [(0, 0), (0, 2), (0, 64), (1, 9999)] o o6)
                exact ⟨hB_o6, fr_o6⟩
          ·
            unfold b_X12_grants_66
            refine T_qNm (fun n8 e_n8 => ?_)
            refine T_qLt ⟨by omega, by omega⟩ ⟨by decide, by decide⟩ (fun h17 => ?_) (fun h17 => ?_)
            ·
              unfold b_X12_grants_96
              refine T_qNm (fun o7 e_o7 => ?_)
              have hB_o7 : BoxM o7 := by rw [e_o7]; exact Box.s2 hB_o
              have fr_o7 : Fr [(0, 0), (0, 2), (0, 64), (1, 9999)] o o7 := by rw [e_o7]; exact Fr.s2 fr_o rfl
              have g0_66_o7 : o7.1 0 66 = o.1 0 66 := by rw [e_o7]; rfl
              have g0_4_o7 : o7.1 0 4 = o.1 0 4 := by rw [e_o7]; rfl
              have g0_32_o7 : o7.1 0 32 = o.1 0 32 := by rw [e_o7]; rfl
              refine T_qLt ⟨by omega, by omega⟩ ⟨by decide, by decide⟩ (fun h18 => ?_) (fun h18 => ?_)
              ·
                unfold b_X12_grants_110
                refine T_qB2 (t_X12_ask o7 n8 0 hB_o7) (fun r4 o6 hc_r4 hp19 => ?_)
                replace hp19 : BoxM o6 ∧ (Fr [(0, 2)] o7 o6) ∧ (r4 = 0) := hp19
                obtain ⟨hB_o6, fc_o6, hp19⟩ := hp19
                have fr_o6 : Fr [(0, 0), (0, 2), (0, 64), (1, 9999)] o o6 := Fr.tr fr_o7 fc_o6 rfl
                have g0_66_o6 : o6.1 0 66 = o7.1 0 66 := fc_o6.1 0 66 rfl
                have g0_4_o6 : o6.1 0 4 = o7.1 0 4 := fc_o6.1 0 4 rfl
                have g0_32_o6 : o6.1 0 32 = o7.1 0 32 := fc_o6.1 0 32 rfl
                refine T_some ?_
                show BoxM o6 ∧ (Fr [(0, 0), (0, 2), (0, 64), (1, 9999)] o o6)
                exact ⟨hB_o6, fr_o6⟩
              ·
                unfold b_X12_grants_110
                refine T_qB2 (t_X12_ask o7 n8 1 hB_o7) (fun r4 o6 hc_r4 hp20 => ?_)
                replace hp20 : BoxM o6 ∧ (Fr [(0, 2)] o7 o6) ∧ (r4 = 1) := hp20
                obtain ⟨hB_o6, fc_o6, hp20⟩ := hp20
                have fr_o6 : Fr [(0, 0), (0, 2), (0, 64), (1, 9999)] o o6 := Fr.tr fr_o7 fc_o6 rfl
                have g0_66_o6 : o6.1 0 66 = o7.1 0 66 := fc_o6.1 0 66 rfl
                have g0_4_o6 : o6.1 0 4 = o7.1 0 4 := fc_o6.1 0 4 rfl
                have g0_32_o6 : o6.1 0 32 = o7.1 0 32 := fc_o6.1 0 32 rfl
                refine T_some ?_
                show BoxM o6 ∧ (Fr [(0, 0), (0, 2), (0, 64), (1, 9999)] o o6)
                exact ⟨hB_o6, fr_o6⟩
            ·
              refine T_qIn ⟨by omega, by omega⟩ ?_
              refine T_qNm (fun n10 e_n10 => ?_)
              have b_n10 : 0 ≤ n10 ∧ n10 ≤ 1000000 := by rw [e_n10]; exact bM_28 hB_o _
              refine T_qIn ⟨by omega, by omega⟩ ?_
              refine T_qNm (fun n12 e_n12 => ?_)
              have b_n12 : 0 ≤ n12 ∧ n12 ≤ 63 := by rw [e_n12]; exact bM_35 hB_o _
              unfold b_X12_grants_96
              refine T_qNm (fun o7 e_o7 => ?_)
              have hB_o7 : BoxM o7 := by rw [e_o7]; exact Box.s2 hB_o
              have fr_o7 : Fr [(0, 0), (0, 2), (0, 64), (1, 9999)] o o7 := by rw [e_o7]; exact Fr.s2 fr_o rfl
              have g0_66_o7 : o7.1 0 66 = o.1 0 66 := by rw [e_o7]; rfl
              have g0_4_o7 : o7.1 0 4 = o.1 0 4 := by rw [e_o7]; rfl
              have g0_32_o7 : o7.1 0 32 = o.1 0 32 := by rw [e_o7]; rfl
              refine T_qLt ⟨by omega, by omega⟩ ⟨by decide, by decide⟩ (fun h21 => ?_) (fun h21 => ?_)
              ·
                unfold b_X12_grants_110
                refine T_qB2 (t_X12_ask o7 n8 0 hB_o7) (fun r4 o6 hc_r4 hp22 => ?_)
                replace hp22 : BoxM o6 ∧ (Fr [(0, 2)] o7 o6) ∧ (r4 = 0) := hp22
                obtain ⟨hB_o6, fc_o6, hp22⟩ := hp22
                have fr_o6 : Fr [(0, 0), (0, 2), (0, 64), (1, 9999)] o o6 := Fr.tr fr_o7 fc_o6 rfl
                have g0_66_o6 : o6.1 0 66 = o7.1 0 66 := fc_o6.1 0 66 rfl
                have g0_4_o6 : o6.1 0 4 = o7.1 0 4 := fc_o6.1 0 4 rfl
                have g0_32_o6 : o6.1 0 32 = o7.1 0 32 := fc_o6.1 0 32 rfl
                refine T_some ?_
                show BoxM o6 ∧ (Fr [(0, 0), (0, 2), (0, 64), (1, 9999)] o o6)
                exact ⟨hB_o6, fr_o6⟩
              ·
                unfold b_X12_grants_110
                refine T_qB2 (t_X12_ask o7 n8 1 hB_o7) (fun r4 o6 hc_r4 hp23 => ?_)
                replace hp23 : BoxM o6 ∧ (Fr [(0, 2)] o7 o6) ∧ (r4 = 1) := hp23
                obtain ⟨hB_o6, fc_o6, hp23⟩ := hp23
                have fr_o6 : Fr [(0, 0), (0, 2), (0, 64), (1, 9999)] o o6 := Fr.tr fr_o7 fc_o6 rfl
                have g0_66_o6 : o6.1 0 66 = o7.1 0 66 := fc_o6.1 0 66 rfl
                have g0_4_o6 : o6.1 0 4 = o7.1 0 4 := fc_o6.1 0 4 rfl
                have g0_32_o6 : o6.1 0 32 = o7.1 0 32 := fc_o6.1 0 32 rfl
                refine T_some ?_
                show BoxM o6 ∧ (Fr [(0, 0), (0, 2), (0, 64), (1, 9999)] o o6)
                exact ⟨hB_o6, fr_o6⟩
      ·
        unfold b_X12_grants_36
        refine T_qB2 (t_X12_meets o 3 hB_o (by omega)) (fun r1 o3 hc_r1 hp24 => ?_)
        replace hp24 : BoxM o3 ∧ (Fr [(0, 0), (1, 9999)] o o3) ∧ (r1 = -3) := hp24
        obtain ⟨hB_o3, fc_o3, hp24⟩ := hp24
        have fr_o3 : Fr [(0, 0), (0, 2), (0, 64), (1, 9999)] o o3 := Fr.tr fr_o fc_o3 rfl
        have g0_66_o3 : o3.1 0 66 = o.1 0 66 := fc_o3.1 0 66 rfl
        have g0_4_o3 : o3.1 0 4 = o.1 0 4 := fc_o3.1 0 4 rfl
        have g0_32_o3 : o3.1 0 32 = o.1 0 32 := fc_o3.1 0 32 rfl
        refine T_some ?_
        show BoxM o3 ∧ (Fr [(0, 0), (0, 2), (0, 64), (1, 9999)] o o3)
        exact ⟨hB_o3, fr_o3⟩
set_option maxRecDepth 20000 in
set_option maxHeartbeats 4000000 in
theorem t_X12_hear (o : OO) (x1 : Int) (x2 : Int) (hB_o : BoxM o) (k0 : inR x1) (k1 : inR x2) : T (s_X12_hear o x1 x2) (fun v => BoxM v.2 ∧ (Fr [(0, 0), (0, 52), (1, 9999), (43, 9999), (44, 9999), (45, 9999)] o v.2)) := by
  have fr_o : Fr [(0, 0), (0, 52), (1, 9999), (43, 9999), (44, 9999), (45, 9999)] o o := Fr.rf
  have g0_52_o := bM_0_52 hB_o
  have g0_4_o := bM_0_4 hB_o
  have g0_27_o := bM_0_27 hB_o
  have g0_32_o := bM_0_32 hB_o
  unfold s_X12_hear
  refine T_qB (t_X12_isPerson o x1 hB_o (by omega)) (fun r1 hc_r1 hp1 => ?_)
  replace hp1 : ((r1 = 1 ∧ 0 ≤ x1 ∧ x1 < o.1 0 27) ∨ (r1 = 0 ∧ (x1 < 0 ∨ o.1 0 27 ≤ x1))) := hp1
  refine T_qEq ⟨by omega, by omega⟩ ⟨by decide, by decide⟩ (fun h2 => ?_) (fun h2 => ?_)
  ·
    unfold b_X12_hear_16
    refine T_some ?_
    show BoxM o ∧ (Fr [(0, 0), (0, 52), (1, 9999), (43, 9999), (44, 9999), (45, 9999)] o o)
    exact ⟨hB_o, fr_o⟩
  ·
    refine T_qB (t_X12_isMark o x2 hB_o (by omega)) (fun r3 hc_r3 hp3 => ?_)
    replace hp3 : ((r3 = 1 ∧ 0 ≤ x2 ∧ x2 < o.1 0 32) ∨ (r3 = 0 ∧ (x2 < 0 ∨ o.1 0 32 ≤ x2))) := hp3
    refine T_qEq ⟨by omega, by omega⟩ ⟨by decide, by decide⟩ (fun h4 => ?_) (fun h4 => ?_)
    ·
      unfold b_X12_hear_16
      refine T_some ?_
      show BoxM o ∧ (Fr [(0, 0), (0, 52), (1, 9999), (43, 9999), (44, 9999), (45, 9999)] o o)
      exact ⟨hB_o, fr_o⟩
    ·
      refine T_qB (t_X12_isLine o x2 hB_o (by omega)) (fun r5 hc_r5 hp5 => ?_)
      replace hp5 : (0 ≤ r5 ∧ r5 ≤ 1) := hp5
      refine T_qEq ⟨by omega, by omega⟩ ⟨by decide, by decide⟩ (fun h6 => ?_) (fun h6 => ?_)
      ·
        refine T_qB2 (t_X12_meets o 3 hB_o (by omega)) (fun r16 o18 hc_r16 hp7 => ?_)
        replace hp7 : BoxM o18 ∧ (Fr [(0, 0), (1, 9999)] o o18) ∧ (r16 = -3) := hp7
        obtain ⟨hB_o18, fc_o18, hp7⟩ := hp7
        have fr_o18 : Fr [(0, 0), (0, 52), (1, 9999), (43, 9999), (44, 9999), (45, 9999)] o o18 := Fr.tr fr_o fc_o18 rfl
        have g0_52_o18 : o18.1 0 52 = o.1 0 52 := fc_o18.1 0 52 rfl
        have g0_4_o18 : o18.1 0 4 = o.1 0 4 := fc_o18.1 0 4 rfl
        have g0_27_o18 : o18.1 0 27 = o.1 0 27 := fc_o18.1 0 27 rfl
        have g0_32_o18 : o18.1 0 32 = o.1 0 32 := fc_o18.1 0 32 rfl
        refine T_some ?_
        show BoxM o18 ∧ (Fr [(0, 0), (0, 52), (1, 9999), (43, 9999), (44, 9999), (45, 9999)] o o18)
        exact ⟨hB_o18, fr_o18⟩
      ·
        refine T_qB (t_X12_heard o x1 x2 hB_o (by omega) (by omega)) (fun r7 hc_r7 hp8 => ?_)
        replace hp8 : (-9 ≤ r7 ∧ r7 ≤ 999) := hp8
        refine T_qLt ⟨by omega, by omega⟩ ⟨by decide, by decide⟩ (fun h9 => ?_) (fun h9 => ?_)
        ·
          refine T_qEq ⟨by omega, by omega⟩ ⟨by decide, by decide⟩ (fun h10 => ?_) (fun h10 => ?_)
          ·
            refine T_some ?_
            show BoxM o ∧ (Fr [(0, 0), (0, 52), (1, 9999), (43, 9999), (44, 9999), (45, 9999)] o o)
            exact ⟨hB_o, fr_o⟩
          ·
            refine T_qIn ⟨by omega, by omega⟩ ?_
            refine T_qNm (fun o10 e_o10 => ?_)
            have hB_o10 : BoxM o10 := by rw [e_o10]; exact Box.s1 hB_o (show 0 ≤ x1 ∧ x1 ≤ 39 from ⟨by omega, by omega⟩)
            have fr_o10 : Fr [(0, 0), (0, 52), (1, 9999), (43, 9999), (44, 9999), (45, 9999)] o o10 := by rw [e_o10]; exact Fr.s1 fr_o rfl
            have g0_52_o10 : o10.1 0 52 = o.1 0 52 := by rw [e_o10]; rfl
            have g0_4_o10 : o10.1 0 4 = o.1 0 4 := by rw [e_o10]; rfl
            have g0_27_o10 : o10.1 0 27 = o.1 0 27 := by rw [e_o10]; rfl
            have g0_32_o10 : o10.1 0 32 = o.1 0 32 := by rw [e_o10]; rfl
            refine T_qIn ⟨by omega, by omega⟩ ?_
            refine T_qNm (fun o12 e_o12 => ?_)
            have hB_o12 : BoxM o12 := by rw [e_o12]; exact Box.s1 hB_o10 (show 0 ≤ x2 ∧ x2 ≤ 23 from ⟨by omega, by omega⟩)
            have fr_o12 : Fr [(0, 0), (0, 52), (1, 9999), (43, 9999), (44, 9999), (45, 9999)] o o12 := by rw [e_o12]; exact Fr.s1 fr_o10 rfl
            have g0_52_o12 : o12.1 0 52 = o10.1 0 52 := by rw [e_o12]; rfl
            have g0_4_o12 : o12.1 0 4 = o10.1 0 4 := by rw [e_o12]; rfl
            have g0_27_o12 : o12.1 0 27 = o10.1 0 27 := by rw [e_o12]; rfl
            have g0_32_o12 : o12.1 0 32 = o10.1 0 32 := by rw [e_o12]; rfl
            refine T_qIn ⟨by omega, by omega⟩ ?_
            refine T_qNm (fun o14 e_o14 => ?_)
            have hB_o14 : BoxM o14 := by rw [e_o14]; exact Box.s1 hB_o12 (show 0 ≤ (o12.1 0 4) ∧ (o12.1 0 4) ≤ 999 from ⟨by omega, by omega⟩)
            have fr_o14 : Fr [(0, 0), (0, 52), (1, 9999), (43, 9999), (44, 9999), (45, 9999)] o o14 := by rw [e_o14]; exact Fr.s1 fr_o12 rfl
            have g0_52_o14 : o14.1 0 52 = o12.1 0 52 := by rw [e_o14]; rfl
            have g0_4_o14 : o14.1 0 4 = o12.1 0 4 := by rw [e_o14]; rfl
            have g0_27_o14 : o14.1 0 27 = o12.1 0 27 := by rw [e_o14]; rfl
            have g0_32_o14 : o14.1 0 32 = o12.1 0 32 := by rw [e_o14]; rfl
            refine T_qNm (fun o15 e_o15 => ?_)
            have hB_o15 : BoxM o15 := by rw [e_o15]; exact Box.s1 hB_o14 (show 0 ≤ ((o14.1 0 52) + 1) ∧ ((o14.1 0 52) + 1) ≤ 60 from ⟨by omega, by omega⟩)
            have fr_o15 : Fr [(0, 0), (0, 52), (1, 9999), (43, 9999), (44, 9999), (45, 9999)] o o15 := by rw [e_o15]; exact Fr.s1 fr_o14 rfl
            have g0_52_o15 : o15.1 0 52 = ((o14.1 0 52) + 1) := by rw [e_o15]; rfl
            have g0_4_o15 : o15.1 0 4 = o14.1 0 4 := by rw [e_o15]; rfl
            have g0_27_o15 : o15.1 0 27 = o14.1 0 27 := by rw [e_o15]; rfl
            have g0_32_o15 : o15.1 0 32 = o14.1 0 32 := by rw [e_o15]; rfl
            refine T_some ?_
            show BoxM o15 ∧ (Fr [(0, 0), (0, 52), (1, 9999), (43, 9999), (44, 9999), (45, 9999)] o o15)
            exact ⟨hB_o15, fr_o15⟩
        ·
          refine T_some ?_
          show BoxM o ∧ (Fr [(0, 0), (0, 52), (1, 9999), (43, 9999), (44, 9999), (45, 9999)] o o)
          exact ⟨hB_o, fr_o⟩
set_option maxRecDepth 20000 in
set_option maxHeartbeats 4000000 in
theorem t_X12_hearing (o : OO) (x1 : Int) (x2 : Int) (x3 : Int) (x4 : Int) (hB_o : BoxM o) (k0 : inR x1) (k1 : inR x2) (k2 : inR x3) (k3 : inR x4) : T (s_X12_hearing o x1 x2 x3 x4) (fun v => BoxM v.2 ∧ (Fr [(0, 0), (0, 32), (1, 9999), (25, 9999), (26, 9999), (27, 9999), (29, 9999), (30, 9999), (35, 9999), (36, 9999), (37, 9999)] o v.2)) := by
  have fr_o : Fr [(0, 0), (0, 32), (1, 9999), (25, 9999), (26, 9999), (27, 9999), (29, 9999), (30, 9999), (35, 9999), (36, 9999), (37, 9999)] o o := Fr.rf
  have g0_32_o := bM_0_32 hB_o
  have g0_4_o := bM_0_4 hB_o
  unfold s_X12_hearing
  refine T_qB (t_X12_isMark o x1 hB_o (by omega)) (fun r1 hc_r1 hp1 => ?_)
  replace hp1 : ((r1 = 1 ∧ 0 ≤ x1 ∧ x1 < o.1 0 32) ∨ (r1 = 0 ∧ (x1 < 0 ∨ o.1 0 32 ≤ x1))) := hp1
  refine T_qEq ⟨by omega, by omega⟩ ⟨by decide, by decide⟩ (fun h2 => ?_) (fun h2 => ?_)
  ·
    unfold b_X12_hearing_33
    refine T_some ?_
    show BoxM o ∧ (Fr [(0, 0), (0, 32), (1, 9999), (25, 9999), (26, 9999), (27, 9999), (29, 9999), (30, 9999), (35, 9999), (36, 9999), (37, 9999)] o o)
    exact ⟨hB_o, fr_o⟩
  ·
    refine T_qB (t_X12_isCell x2 (by omega)) (fun r3 hc_r3 hp3 => ?_)
    replace hp3 : ((r3 = 1 ∧ 0 ≤ x2 ∧ x2 ≤ 63) ∨ (r3 = 0 ∧ (x2 < 0 ∨ 63 < x2))) := hp3
    refine T_qEq ⟨by omega, by omega⟩ ⟨by decide, by decide⟩ (fun h4 => ?_) (fun h4 => ?_)
    ·
      unfold b_X12_hearing_33
      refine T_some ?_
      show BoxM o ∧ (Fr [(0, 0), (0, 32), (1, 9999), (25, 9999), (26, 9999), (27, 9999), (29, 9999), (30, 9999), (35, 9999), (36, 9999), (37, 9999)] o o)
      exact ⟨hB_o, fr_o⟩
    ·
      refine T_qB (t_X12_in x3 0 23 (by omega) (by omega) (by omega)) (fun r5 hc_r5 hp5 => ?_)
      replace hp5 : ((r5 = 1 ∧ 0 ≤ x3 ∧ x3 ≤ 23) ∨ (r5 = 0 ∧ (x3 < 0 ∨ 23 < x3))) := hp5
      refine T_qEq ⟨by omega, by omega⟩ ⟨by decide, by decide⟩ (fun h6 => ?_) (fun h6 => ?_)
      ·
        unfold b_X12_hearing_33
        refine T_some ?_
        show BoxM o ∧ (Fr [(0, 0), (0, 32), (1, 9999), (25, 9999), (26, 9999), (27, 9999), (29, 9999), (30, 9999), (35, 9999), (36, 9999), (37, 9999)] o o)
        exact ⟨hB_o, fr_o⟩
      ·
        refine T_qB (t_X12_isDay x4 (by omega)) (fun r7 hc_r7 hp7 => ?_)
        replace hp7 : ((r7 = 1 ∧ 0 ≤ x4 ∧ x4 ≤ 999) ∨ (r7 = 0 ∧ (x4 < 0 ∨ 999 < x4))) := hp7
        refine T_qEq ⟨by omega, by omega⟩ ⟨by decide, by decide⟩ (fun h8 => ?_) (fun h8 => ?_)
        ·
          unfold b_X12_hearing_33
          refine T_some ?_
          show BoxM o ∧ (Fr [(0, 0), (0, 32), (1, 9999), (25, 9999), (26, 9999), (27, 9999), (29, 9999), (30, 9999), (35, 9999), (36, 9999), (37, 9999)] o o)
          exact ⟨hB_o, fr_o⟩
        ·
          refine T_qEq ⟨by omega, by omega⟩ ⟨by decide, by decide⟩ (fun h9 => ?_) (fun h9 => ?_)
          ·
            refine T_some ?_
            show BoxM o ∧ (Fr [(0, 0), (0, 32), (1, 9999), (25, 9999), (26, 9999), (27, 9999), (29, 9999), (30, 9999), (35, 9999), (36, 9999), (37, 9999)] o o)
            exact ⟨hB_o, fr_o⟩
          ·
            refine T_qB (t_X12_isLine o x1 hB_o (by omega)) (fun r9 hc_r9 hp10 => ?_)
            replace hp10 : (0 ≤ r9 ∧ r9 ≤ 1) := hp10
            refine T_qEq ⟨by omega, by omega⟩ ⟨by decide, by decide⟩ (fun h11 => ?_) (fun h11 => ?_)
            ·
              refine T_qB2 (t_X12_meets o 3 hB_o (by omega)) (fun r20 o22 hc_r20 hp12 => ?_)
              replace hp12 : BoxM o22 ∧ (Fr [(0, 0), (1, 9999)] o o22) ∧ (r20 = -3) := hp12
              obtain ⟨hB_o22, fc_o22, hp12⟩ := hp12
              have fr_o22 : Fr [(0, 0), (0, 32), (1, 9999), (25, 9999), (26, 9999), (27, 9999), (29, 9999), (30, 9999), (35, 9999), (36, 9999), (37, 9999)] o o22 := Fr.tr fr_o fc_o22 rfl
              have g0_32_o22 : o22.1 0 32 = o.1 0 32 := fc_o22.1 0 32 rfl
              have g0_4_o22 : o22.1 0 4 = o.1 0 4 := fc_o22.1 0 4 rfl
              refine T_some ?_
              show BoxM o22 ∧ (Fr [(0, 0), (0, 32), (1, 9999), (25, 9999), (26, 9999), (27, 9999), (29, 9999), (30, 9999), (35, 9999), (36, 9999), (37, 9999)] o o22)
              exact ⟨hB_o22, fr_o22⟩
            ·
              refine T_qLt ⟨by omega, by omega⟩ ⟨by omega, by omega⟩ (fun h13 => ?_) (fun h13 => ?_)
              ·
                refine T_some ?_
                show BoxM o ∧ (Fr [(0, 0), (0, 32), (1, 9999), (25, 9999), (26, 9999), (27, 9999), (29, 9999), (30, 9999), (35, 9999), (36, 9999), (37, 9999)] o o)
                exact ⟨hB_o, fr_o⟩
              ·
                refine T_qB2 (t_X12_enter o 6 x1 hB_o (by omega) (by omega) (by omega)) (fun r11 o13 hc_r11 hp14 => ?_)
                replace hp14 : BoxM o13 ∧ (Fr [(0, 32), (25, 9999), (26, 9999), (27, 9999), (29, 9999), (30, 9999)] o o13) ∧ (r11 = o.1 0 32) ∧ (o13.1 0 32 = o.1 0 32 + 1) := hp14
                obtain ⟨hB_o13, fc_o13, hp14⟩ := hp14
                have fr_o13 : Fr [(0, 0), (0, 32), (1, 9999), (25, 9999), (26, 9999), (27, 9999), (29, 9999), (30, 9999), (35, 9999), (36, 9999), (37, 9999)] o o13 := Fr.tr fr_o fc_o13 rfl
                have g0_32_o13 := bM_0_32 hB_o13
                have g0_4_o13 : o13.1 0 4 = o.1 0 4 := fc_o13.1 0 4 rfl
                refine T_qIn ⟨by omega, by omega⟩ ?_
                refine T_qNm (fun o15 e_o15 => ?_)
                have hB_o15 : BoxM o15 := by rw [e_o15]; exact Box.s1 hB_o13 (show 0 ≤ x2 ∧ x2 ≤ 63 from ⟨by omega, by omega⟩)
                have fr_o15 : Fr [(0, 0), (0, 32), (1, 9999), (25, 9999), (26, 9999), (27, 9999), (29, 9999), (30, 9999), (35, 9999), (36, 9999), (37, 9999)] o o15 := by rw [e_o15]; exact Fr.s1 fr_o13 rfl
                have g0_32_o15 : o15.1 0 32 = o13.1 0 32 := by rw [e_o15]; rfl
                have g0_4_o15 : o15.1 0 4 = o13.1 0 4 := by rw [e_o15]; rfl
                refine T_qIn ⟨by omega, by omega⟩ ?_
                refine T_qNm (fun o17 e_o17 => ?_)
                have hB_o17 : BoxM o17 := by rw [e_o17]; exact Box.s1 hB_o15 (show 0 ≤ x3 ∧ x3 ≤ 999 from ⟨by omega, by omega⟩)
                have fr_o17 : Fr [(0, 0), (0, 32), (1, 9999), (25, 9999), (26, 9999), (27, 9999), (29, 9999), (30, 9999), (35, 9999), (36, 9999), (37, 9999)] o o17 := by rw [e_o17]; exact Fr.s1 fr_o15 rfl
                have g0_32_o17 : o17.1 0 32 = o15.1 0 32 := by rw [e_o17]; rfl
                have g0_4_o17 : o17.1 0 4 = o15.1 0 4 := by rw [e_o17]; rfl
                refine T_qIn ⟨by omega, by omega⟩ ?_
                refine T_qNm (fun o19 e_o19 => ?_)
                have hB_o19 : BoxM o19 := by rw [e_o19]; exact Box.s1 hB_o17 (show 0 ≤ x4 ∧ x4 ≤ 999 from ⟨by omega, by omega⟩)
                have fr_o19 : Fr [(0, 0), (0, 32), (1, 9999), (25, 9999), (26, 9999), (27, 9999), (29, 9999), (30, 9999), (35, 9999), (36, 9999), (37, 9999)] o o19 := by rw [e_o19]; exact Fr.s1 fr_o17 rfl
                have g0_32_o19 : o19.1 0 32 = o17.1 0 32 := by rw [e_o19]; rfl
                have g0_4_o19 : o19.1 0 4 = o17.1 0 4 := by rw [e_o19]; rfl
                refine T_some ?_
                show BoxM o19 ∧ (Fr [(0, 0), (0, 32), (1, 9999), (25, 9999), (26, 9999), (27, 9999), (29, 9999), (30, 9999), (35, 9999), (36, 9999), (37, 9999)] o o19)
                exact ⟨hB_o19, fr_o19⟩
set_option maxRecDepth 20000 in
set_option maxHeartbeats 4000000 in
theorem t_X12_house (o : OO) (x1 : Int) (x2 : Int) (hB_o : BoxM o) (k0 : inR x1) (k1 : inR x2) : T (s_X12_house o x1 x2) (fun v => BoxM v.2 ∧ (Fr [(0, 2)] o v.2)) := by
  have fr_o : Fr [(0, 2)] o o := Fr.rf
  have g0_17_o := bM_0_17 hB_o
  unfold s_X12_house
  refine T_qB (t_X12_isBuilding o x1 hB_o (by omega)) (fun r1 hc_r1 hp1 => ?_)
  replace hp1 : ((r1 = 1 ∧ 0 ≤ x1 ∧ x1 < o.1 0 17) ∨ (r1 = 0 ∧ (x1 < 0 ∨ o.1 0 17 ≤ x1))) := hp1
  refine T_qEq ⟨by omega, by omega⟩ ⟨by decide, by decide⟩ (fun h2 => ?_) (fun h2 => ?_)
  ·
    unfold b_X12_house_31
    unfold b_X12_house_32
    refine T_some ?_
    show BoxM o ∧ (Fr [(0, 2)] o o)
    exact ⟨hB_o, fr_o⟩
  ·
    refine T_qB (t_X12_in x2 0 5 (by omega) (by omega) (by omega)) (fun r3 hc_r3 hp3 => ?_)
    replace hp3 : ((r3 = 1 ∧ 0 ≤ x2 ∧ x2 ≤ 5) ∨ (r3 = 0 ∧ (x2 < 0 ∨ 5 < x2))) := hp3
    refine T_qEq ⟨by omega, by omega⟩ ⟨by decide, by decide⟩ (fun h4 => ?_) (fun h4 => ?_)
    ·
      unfold b_X12_house_31
      unfold b_X12_house_32
      refine T_some ?_
      show BoxM o ∧ (Fr [(0, 2)] o o)
      exact ⟨hB_o, fr_o⟩
    ·
      refine T_qB (t_X12_houseTells o x1 x2 hB_o (by omega) (by omega)) (fun r5 hc_r5 hp5 => ?_)
      replace hp5 : (inR r5) := hp5
      refine T_qB2 (t_X12_ask o r5 1 hB_o) (fun r7 o9 hc_r7 hp6 => ?_)
      replace hp6 : BoxM o9 ∧ (Fr [(0, 2)] o o9) ∧ (r7 = 1) := hp6
      obtain ⟨hB_o9, fc_o9, hp6⟩ := hp6
      have fr_o9 : Fr [(0, 2)] o o9 := Fr.tr fr_o fc_o9 rfl
      have g0_17_o9 : o9.1 0 17 = o.1 0 17 := fc_o9.1 0 17 rfl
      unfold b_X12_house_32
      refine T_some ?_
      show BoxM o9 ∧ (Fr [(0, 2)] o o9)
      exact ⟨hB_o9, fr_o9⟩
set_option maxRecDepth 20000 in
set_option maxHeartbeats 4000000 in
theorem tl_X12_couldCome_4 (o : OO) (x1 : Int) (i_x2 : Int) (i_x3 : Int) (hB_o : BoxM o) (k0 : 0 ≤ x1 ∧ x1 ≤ 23) (v0 : 0 ≤ i_x2 ∧ i_x2 ≤ i_x3) (v1 : 0 ≤ i_x3 ∧ i_x3 ≤ o.1 0 27) : T (loopW (fun s => l_X12_couldCome_4 o x1 s.1 s.2) (i_x2, i_x3)) (fun r => (0 ≤ r ∧ r ≤ o.1 0 27)) := by
  refine T_loop (fun s => (0 ≤ s.1 ∧ s.1 ≤ s.2) ∧ (0 ≤ s.2 ∧ s.2 ≤ o.1 0 27)) (fun s => (o.1 0 27 - s.2).toNat) (by exact ⟨v0, v1⟩) (fun s hs => ?_)
  obtain ⟨x2, x3⟩ := s
  replace hs : (0 ≤ x2 ∧ x2 ≤ x3) ∧ (0 ≤ x3 ∧ x3 ≤ o.1 0 27) := hs
  obtain ⟨w0, w1⟩ := hs
  have g0_27_o := bM_0_27 hB_o
  show T (l_X12_couldCome_4 o x1 x2 x3) _
  unfold l_X12_couldCome_4
  refine T_qLt ⟨by omega, by omega⟩ ⟨by omega, by omega⟩ (fun h1 => ?_) (fun h1 => ?_)
  ·
    refine T_qIn ⟨by omega, by omega⟩ ?_
    refine T_qNm (fun n9 e_n9 => ?_)
    have b_n9 : -9 ≤ n9 ∧ n9 ≤ 31 := by rw [e_n9]; exact bM_21 hB_o _
    refine T_qLt ⟨by omega, by omega⟩ ⟨by decide, by decide⟩ (fun h2 => ?_) (fun h2 => ?_)
    ·
      unfold b_X12_couldCome_118
      refine T_some ?_
      show ((0 ≤ x2 ∧ x2 ≤ (x3 + 1)) ∧ (0 ≤ (x3 + 1) ∧ (x3 + 1) ≤ o.1 0 27)) ∧ (o.1 0 27 - (x3 + 1)).toNat < (o.1 0 27 - x3).toNat
      exact ⟨⟨(by omega), (by omega)⟩, by omega⟩
    ·
      refine T_qIn ⟨by omega, by omega⟩ ?_
      refine T_qNm (fun n11 e_n11 => ?_)
      have b_n11 : 0 ≤ n11 ∧ n11 ≤ 1 := by rw [e_n11]; exact bM_23 hB_o _
      refine T_qEq ⟨by omega, by omega⟩ ⟨by decide, by decide⟩ (fun h3 => ?_) (fun h3 => ?_)
      ·
        refine T_qIn ⟨by omega, by omega⟩ ?_
        refine T_qNm (fun n13 e_n13 => ?_)
        have b_n13 : -9 ≤ n13 ∧ n13 ≤ 31 := by rw [e_n13]; exact bM_21 hB_o _
        refine T_qIn ⟨by omega, by omega⟩ ?_
        refine T_qNm (fun n15 e_n15 => ?_)
        have b_n15 : 0 ≤ n15 ∧ n15 ≤ 63 := by rw [e_n15]; exact bM_13 hB_o _
        refine T_qIn ⟨by omega, by omega⟩ ?_
        refine T_qNm (fun n17 e_n17 => ?_)
        have b_n17 : 0 ≤ n17 ∧ n17 ≤ 63 := by rw [e_n17]; exact bM_35 hB_o _
        refine T_qB (t_X12_apart n15 n17 (by omega) (by omega)) (fun r18 hc_r18 hp4 => ?_)
        replace hp4 : (0 ≤ r18 ∧ r18 ≤ 14) := hp4
        refine T_qLt ⟨by decide, by decide⟩ ⟨by omega, by omega⟩ (fun h5 => ?_) (fun h5 => ?_)
        ·
          unfold b_X12_couldCome_60
          refine T_qIn ⟨by omega, by omega⟩ ?_
          refine T_qNm (fun n3 e_n3 => ?_)
          have b_n3 : -9 ≤ n3 ∧ n3 ≤ 63 := by rw [e_n3]; exact bM_22 hB_o _
          refine T_qLt ⟨by omega, by omega⟩ ⟨by decide, by decide⟩ (fun h6 => ?_) (fun h6 => ?_)
          ·
            unfold b_X12_couldCome_93
            unfold b_X12_couldCome_98
            refine T_qEq ⟨by decide, by decide⟩ ⟨by decide, by decide⟩ (fun h7 => ?_) (fun h7 => ?_)
            ·
              unfold b_X12_couldCome_115
              unfold b_X12_couldCome_116
              refine T_qNm (fun n1 e_n1 => ?_)
              unfold b_X12_couldCome_118
              refine T_some ?_
              show ((0 ≤ n1 ∧ n1 ≤ (x3 + 1)) ∧ (0 ≤ (x3 + 1) ∧ (x3 + 1) ≤ o.1 0 27)) ∧ (o.1 0 27 - (x3 + 1)).toNat < (o.1 0 27 - x3).toNat
              exact ⟨⟨(by omega), (by omega)⟩, by omega⟩
            ·
              refine T_qEq ⟨by decide, by decide⟩ ⟨by decide, by decide⟩ (fun h8 => ?_) (fun h8 => ?_)
              ·
                unfold b_X12_couldCome_115
                unfold b_X12_couldCome_116
                refine T_qNm (fun n1 e_n1 => ?_)
                unfold b_X12_couldCome_118
                refine T_some ?_
                show ((0 ≤ n1 ∧ n1 ≤ (x3 + 1)) ∧ (0 ≤ (x3 + 1) ∧ (x3 + 1) ≤ o.1 0 27)) ∧ (o.1 0 27 - (x3 + 1)).toNat < (o.1 0 27 - x3).toNat
                exact ⟨⟨(by omega), (by omega)⟩, by omega⟩
              ·
                unfold b_X12_couldCome_116
                refine T_qNm (fun n1 e_n1 => ?_)
                unfold b_X12_couldCome_118
                refine T_some ?_
                show ((0 ≤ n1 ∧ n1 ≤ (x3 + 1)) ∧ (0 ≤ (x3 + 1) ∧ (x3 + 1) ≤ o.1 0 27)) ∧ (o.1 0 27 - (x3 + 1)).toNat < (o.1 0 27 - x3).toNat
                exact ⟨⟨(by omega), (by omega)⟩, by omega⟩
          ·
            refine T_qIn ⟨by omega, by omega⟩ ?_
            refine T_qNm (fun n5 e_n5 => ?_)
            have b_n5 : 0 ≤ n5 ∧ n5 ≤ 999 := by rw [e_n5]; exact bM_36 hB_o _
            refine T_qLt ⟨by omega, by omega⟩ ⟨by decide, by decide⟩ (fun h9 => ?_) (fun h9 => ?_)
            ·
              unfold b_X12_couldCome_93
              unfold b_X12_couldCome_98
              refine T_qEq ⟨by decide, by decide⟩ ⟨by decide, by decide⟩ (fun h10 => ?_) (fun h10 => ?_)
              ·
                unfold b_X12_couldCome_115
                unfold b_X12_couldCome_116
                refine T_qNm (fun n1 e_n1 => ?_)
                unfold b_X12_couldCome_118
                refine T_some ?_
                show ((0 ≤ n1 ∧ n1 ≤ (x3 + 1)) ∧ (0 ≤ (x3 + 1) ∧ (x3 + 1) ≤ o.1 0 27)) ∧ (o.1 0 27 - (x3 + 1)).toNat < (o.1 0 27 - x3).toNat
                exact ⟨⟨(by omega), (by omega)⟩, by omega⟩
              ·
                refine T_qEq ⟨by decide, by decide⟩ ⟨by decide, by decide⟩ (fun h11 => ?_) (fun h11 => ?_)
                ·
                  unfold b_X12_couldCome_115
                  unfold b_X12_couldCome_116
                  refine T_qNm (fun n1 e_n1 => ?_)
                  unfold b_X12_couldCome_118
                  refine T_some ?_
                  show ((0 ≤ n1 ∧ n1 ≤ (x3 + 1)) ∧ (0 ≤ (x3 + 1) ∧ (x3 + 1) ≤ o.1 0 27)) ∧ (o.1 0 27 - (x3 + 1)).toNat < (o.1 0 27 - x3).toNat
                  exact ⟨⟨(by omega), (by omega)⟩, by omega⟩
                ·
                  unfold b_X12_couldCome_116
                  refine T_qNm (fun n1 e_n1 => ?_)
                  unfold b_X12_couldCome_118
                  refine T_some ?_
                  show ((0 ≤ n1 ∧ n1 ≤ (x3 + 1)) ∧ (0 ≤ (x3 + 1) ∧ (x3 + 1) ≤ o.1 0 27)) ∧ (o.1 0 27 - (x3 + 1)).toNat < (o.1 0 27 - x3).toNat
                  exact ⟨⟨(by omega), (by omega)⟩, by omega⟩
            ·
              refine T_qIn ⟨by omega, by omega⟩ ?_
              refine T_qNm (fun n7 e_n7 => ?_)
              have b_n7 : 0 ≤ n7 ∧ n7 ≤ 999 := by rw [e_n7]; exact bM_36 hB_o _
              refine T_qLt ⟨by decide, by decide⟩ ⟨by omega, by omega⟩ (fun h12 => ?_) (fun h12 => ?_)
              ·
                unfold b_X12_couldCome_93
                unfold b_X12_couldCome_98
                refine T_qEq ⟨by decide, by decide⟩ ⟨by decide, by decide⟩ (fun h13 => ?_) (fun h13 => ?_)
                ·
                  unfold b_X12_couldCome_115
                  unfold b_X12_couldCome_116
                  refine T_qNm (fun n1 e_n1 => ?_)
                  unfold b_X12_couldCome_118
                  refine T_some ?_
                  show ((0 ≤ n1 ∧ n1 ≤ (x3 + 1)) ∧ (0 ≤ (x3 + 1) ∧ (x3 + 1) ≤ o.1 0 27)) ∧ (o.1 0 27 - (x3 + 1)).toNat < (o.1 0 27 - x3).toNat
                  exact ⟨⟨(by omega), (by omega)⟩, by omega⟩
                ·
                  refine T_qEq ⟨by decide, by decide⟩ ⟨by decide, by decide⟩ (fun h14 => ?_) (fun h14 => ?_)
                  ·
                    unfold b_X12_couldCome_115
                    unfold b_X12_couldCome_116
                    refine T_qNm (fun n1 e_n1 => ?_)
                    unfold b_X12_couldCome_118
                    refine T_some ?_
                    show ((0 ≤ n1 ∧ n1 ≤ (x3 + 1)) ∧ (0 ≤ (x3 + 1) ∧ (x3 + 1) ≤ o.1 0 27)) ∧ (o.1 0 27 - (x3 + 1)).toNat < (o.1 0 27 - x3).toNat
                    exact ⟨⟨(by omega), (by omega)⟩, by omega⟩
                  ·
                    unfold b_X12_couldCome_116
                    refine T_qNm (fun n1 e_n1 => ?_)
                    unfold b_X12_couldCome_118
                    refine T_some ?_
                    show ((0 ≤ n1 ∧ n1 ≤ (x3 + 1)) ∧ (0 ≤ (x3 + 1) ∧ (x3 + 1) ≤ o.1 0 27)) ∧ (o.1 0 27 - (x3 + 1)).toNat < (o.1 0 27 - x3).toNat
                    exact ⟨⟨(by omega), (by omega)⟩, by omega⟩
              ·
                unfold b_X12_couldCome_98
                refine T_qEq ⟨by decide, by decide⟩ ⟨by decide, by decide⟩ (fun h15 => ?_) (fun h15 => ?_)
                ·
                  unfold b_X12_couldCome_115
                  unfold b_X12_couldCome_116
                  refine T_qNm (fun n1 e_n1 => ?_)
                  unfold b_X12_couldCome_118
                  refine T_some ?_
                  show ((0 ≤ n1 ∧ n1 ≤ (x3 + 1)) ∧ (0 ≤ (x3 + 1) ∧ (x3 + 1) ≤ o.1 0 27)) ∧ (o.1 0 27 - (x3 + 1)).toNat < (o.1 0 27 - x3).toNat
                  exact ⟨⟨(by omega), (by omega)⟩, by omega⟩
                ·
                  refine T_qEq ⟨by decide, by decide⟩ ⟨by decide, by decide⟩ (fun h16 => ?_) (fun h16 => ?_)
                  ·
                    unfold b_X12_couldCome_115
                    unfold b_X12_couldCome_116
                    refine T_qNm (fun n1 e_n1 => ?_)
                    unfold b_X12_couldCome_118
                    refine T_some ?_
                    show ((0 ≤ n1 ∧ n1 ≤ (x3 + 1)) ∧ (0 ≤ (x3 + 1) ∧ (x3 + 1) ≤ o.1 0 27)) ∧ (o.1 0 27 - (x3 + 1)).toNat < (o.1 0 27 - x3).toNat
                    exact ⟨⟨(by omega), (by omega)⟩, by omega⟩
                  ·
                    unfold b_X12_couldCome_116
                    refine T_qNm (fun n1 e_n1 => ?_)
                    unfold b_X12_couldCome_118
                    refine T_some ?_
                    show ((0 ≤ n1 ∧ n1 ≤ (x3 + 1)) ∧ (0 ≤ (x3 + 1) ∧ (x3 + 1) ≤ o.1 0 27)) ∧ (o.1 0 27 - (x3 + 1)).toNat < (o.1 0 27 - x3).toNat
                    exact ⟨⟨(by omega), (by omega)⟩, by omega⟩
        ·
          unfold b_X12_couldCome_55
          unfold b_X12_couldCome_60
          refine T_qIn ⟨by omega, by omega⟩ ?_
          refine T_qNm (fun n3 e_n3 => ?_)
          have b_n3 : -9 ≤ n3 ∧ n3 ≤ 63 := by rw [e_n3]; exact bM_22 hB_o _
          refine T_qLt ⟨by omega, by omega⟩ ⟨by decide, by decide⟩ (fun h17 => ?_) (fun h17 => ?_)
          ·
            unfold b_X12_couldCome_93
            unfold b_X12_couldCome_98
            refine T_qEq ⟨by decide, by decide⟩ ⟨by decide, by decide⟩ (fun h18 => ?_) (fun h18 => ?_)
            ·
              unfold b_X12_couldCome_115
              unfold b_X12_couldCome_116
              refine T_qNm (fun n1 e_n1 => ?_)
              unfold b_X12_couldCome_118
              refine T_some ?_
              show ((0 ≤ n1 ∧ n1 ≤ (x3 + 1)) ∧ (0 ≤ (x3 + 1) ∧ (x3 + 1) ≤ o.1 0 27)) ∧ (o.1 0 27 - (x3 + 1)).toNat < (o.1 0 27 - x3).toNat
              exact ⟨⟨(by omega), (by omega)⟩, by omega⟩
            ·
              refine T_qEq ⟨by decide, by decide⟩ ⟨by decide, by decide⟩ (fun h19 => ?_) (fun h19 => ?_)
              ·
                unfold b_X12_couldCome_115
                unfold b_X12_couldCome_116
                refine T_qNm (fun n1 e_n1 => ?_)
                unfold b_X12_couldCome_118
                refine T_some ?_
                show ((0 ≤ n1 ∧ n1 ≤ (x3 + 1)) ∧ (0 ≤ (x3 + 1) ∧ (x3 + 1) ≤ o.1 0 27)) ∧ (o.1 0 27 - (x3 + 1)).toNat < (o.1 0 27 - x3).toNat
                exact ⟨⟨(by omega), (by omega)⟩, by omega⟩
              ·
                unfold b_X12_couldCome_116
                refine T_qNm (fun n1 e_n1 => ?_)
                unfold b_X12_couldCome_118
                refine T_some ?_
                show ((0 ≤ n1 ∧ n1 ≤ (x3 + 1)) ∧ (0 ≤ (x3 + 1) ∧ (x3 + 1) ≤ o.1 0 27)) ∧ (o.1 0 27 - (x3 + 1)).toNat < (o.1 0 27 - x3).toNat
                exact ⟨⟨(by omega), (by omega)⟩, by omega⟩
          ·
            refine T_qIn ⟨by omega, by omega⟩ ?_
            refine T_qNm (fun n5 e_n5 => ?_)
            have b_n5 : 0 ≤ n5 ∧ n5 ≤ 999 := by rw [e_n5]; exact bM_36 hB_o _
            refine T_qLt ⟨by omega, by omega⟩ ⟨by decide, by decide⟩ (fun h20 => ?_) (fun h20 => ?_)
            ·
              unfold b_X12_couldCome_93
              unfold b_X12_couldCome_98
              refine T_qEq ⟨by decide, by decide⟩ ⟨by decide, by decide⟩ (fun h21 => ?_) (fun h21 => ?_)
              ·
                unfold b_X12_couldCome_115
                unfold b_X12_couldCome_116
                refine T_qNm (fun n1 e_n1 => ?_)
                unfold b_X12_couldCome_118
                refine T_some ?_
                show ((0 ≤ n1 ∧ n1 ≤ (x3 + 1)) ∧ (0 ≤ (x3 + 1) ∧ (x3 + 1) ≤ o.1 0 27)) ∧ (o.1 0 27 - (x3 + 1)).toNat < (o.1 0 27 - x3).toNat
                exact ⟨⟨(by omega), (by omega)⟩, by omega⟩
              ·
                refine T_qEq ⟨by decide, by decide⟩ ⟨by decide, by decide⟩ (fun h22 => ?_) (fun h22 => ?_)
                ·
                  unfold b_X12_couldCome_115
                  unfold b_X12_couldCome_116
                  refine T_qNm (fun n1 e_n1 => ?_)
                  unfold b_X12_couldCome_118
                  refine T_some ?_
                  show ((0 ≤ n1 ∧ n1 ≤ (x3 + 1)) ∧ (0 ≤ (x3 + 1) ∧ (x3 + 1) ≤ o.1 0 27)) ∧ (o.1 0 27 - (x3 + 1)).toNat < (o.1 0 27 - x3).toNat
                  exact ⟨⟨(by omega), (by omega)⟩, by omega⟩
                ·
                  unfold b_X12_couldCome_116
                  refine T_qNm (fun n1 e_n1 => ?_)
                  unfold b_X12_couldCome_118
                  refine T_some ?_
                  show ((0 ≤ n1 ∧ n1 ≤ (x3 + 1)) ∧ (0 ≤ (x3 + 1) ∧ (x3 + 1) ≤ o.1 0 27)) ∧ (o.1 0 27 - (x3 + 1)).toNat < (o.1 0 27 - x3).toNat
                  exact ⟨⟨(by omega), (by omega)⟩, by omega⟩
            ·
              refine T_qIn ⟨by omega, by omega⟩ ?_
              refine T_qNm (fun n7 e_n7 => ?_)
              have b_n7 : 0 ≤ n7 ∧ n7 ≤ 999 := by rw [e_n7]; exact bM_36 hB_o _
              refine T_qLt ⟨by decide, by decide⟩ ⟨by omega, by omega⟩ (fun h23 => ?_) (fun h23 => ?_)
              ·
                unfold b_X12_couldCome_93
                unfold b_X12_couldCome_98
                refine T_qEq ⟨by decide, by decide⟩ ⟨by decide, by decide⟩ (fun h24 => ?_) (fun h24 => ?_)
                ·
                  unfold b_X12_couldCome_115
                  unfold b_X12_couldCome_116
                  refine T_qNm (fun n1 e_n1 => ?_)
                  unfold b_X12_couldCome_118
                  refine T_some ?_
                  show ((0 ≤ n1 ∧ n1 ≤ (x3 + 1)) ∧ (0 ≤ (x3 + 1) ∧ (x3 + 1) ≤ o.1 0 27)) ∧ (o.1 0 27 - (x3 + 1)).toNat < (o.1 0 27 - x3).toNat
                  exact ⟨⟨(by omega), (by omega)⟩, by omega⟩
                ·
                  refine T_qEq ⟨by decide, by decide⟩ ⟨by decide, by decide⟩ (fun h25 => ?_) (fun h25 => ?_)
                  ·
                    unfold b_X12_couldCome_115
                    unfold b_X12_couldCome_116
                    refine T_qNm (fun n1 e_n1 => ?_)
                    unfold b_X12_couldCome_118
                    refine T_some ?_
                    show ((0 ≤ n1 ∧ n1 ≤ (x3 + 1)) ∧ (0 ≤ (x3 + 1) ∧ (x3 + 1) ≤ o.1 0 27)) ∧ (o.1 0 27 - (x3 + 1)).toNat < (o.1 0 27 - x3).toNat
                    exact ⟨⟨(by omega), (by omega)⟩, by omega⟩
                  ·
                    unfold b_X12_couldCome_116
                    refine T_qNm (fun n1 e_n1 => ?_)
                    unfold b_X12_couldCome_118
                    refine T_some ?_
                    show ((0 ≤ n1 ∧ n1 ≤ (x3 + 1)) ∧ (0 ≤ (x3 + 1) ∧ (x3 + 1) ≤ o.1 0 27)) ∧ (o.1 0 27 - (x3 + 1)).toNat < (o.1 0 27 - x3).toNat
                    exact ⟨⟨(by omega), (by omega)⟩, by omega⟩
              ·
                unfold b_X12_couldCome_98
                refine T_qEq ⟨by decide, by decide⟩ ⟨by decide, by decide⟩ (fun h26 => ?_) (fun h26 => ?_)
                ·
                  unfold b_X12_couldCome_115
                  unfold b_X12_couldCome_116
                  refine T_qNm (fun n1 e_n1 => ?_)
                  unfold b_X12_couldCome_118
                  refine T_some ?_
                  show ((0 ≤ n1 ∧ n1 ≤ (x3 + 1)) ∧ (0 ≤ (x3 + 1) ∧ (x3 + 1) ≤ o.1 0 27)) ∧ (o.1 0 27 - (x3 + 1)).toNat < (o.1 0 27 - x3).toNat
                  exact ⟨⟨(by omega), (by omega)⟩, by omega⟩
                ·
                  refine T_qEq ⟨by decide, by decide⟩ ⟨by decide, by decide⟩ (fun h27 => ?_) (fun h27 => ?_)
                  ·
                    unfold b_X12_couldCome_115
                    unfold b_X12_couldCome_116
                    refine T_qNm (fun n1 e_n1 => ?_)
                    unfold b_X12_couldCome_118
                    refine T_some ?_
                    show ((0 ≤ n1 ∧ n1 ≤ (x3 + 1)) ∧ (0 ≤ (x3 + 1) ∧ (x3 + 1) ≤ o.1 0 27)) ∧ (o.1 0 27 - (x3 + 1)).toNat < (o.1 0 27 - x3).toNat
                    exact ⟨⟨(by omega), (by omega)⟩, by omega⟩
                  ·
                    unfold b_X12_couldCome_116
                    refine T_qNm (fun n1 e_n1 => ?_)
                    unfold b_X12_couldCome_118
                    refine T_some ?_
                    show ((0 ≤ n1 ∧ n1 ≤ (x3 + 1)) ∧ (0 ≤ (x3 + 1) ∧ (x3 + 1) ≤ o.1 0 27)) ∧ (o.1 0 27 - (x3 + 1)).toNat < (o.1 0 27 - x3).toNat
                    exact ⟨⟨(by omega), (by omega)⟩, by omega⟩
      ·
        unfold b_X12_couldCome_55
        unfold b_X12_couldCome_60
        refine T_qIn ⟨by omega, by omega⟩ ?_
        refine T_qNm (fun n3 e_n3 => ?_)
        have b_n3 : -9 ≤ n3 ∧ n3 ≤ 63 := by rw [e_n3]; exact bM_22 hB_o _
        refine T_qLt ⟨by omega, by omega⟩ ⟨by decide, by decide⟩ (fun h28 => ?_) (fun h28 => ?_)
        ·
          unfold b_X12_couldCome_93
          unfold b_X12_couldCome_98
          refine T_qEq ⟨by decide, by decide⟩ ⟨by decide, by decide⟩ (fun h29 => ?_) (fun h29 => ?_)
          ·
            unfold b_X12_couldCome_115
            unfold b_X12_couldCome_116
            refine T_qNm (fun n1 e_n1 => ?_)
            unfold b_X12_couldCome_118
            refine T_some ?_
            show ((0 ≤ n1 ∧ n1 ≤ (x3 + 1)) ∧ (0 ≤ (x3 + 1) ∧ (x3 + 1) ≤ o.1 0 27)) ∧ (o.1 0 27 - (x3 + 1)).toNat < (o.1 0 27 - x3).toNat
            exact ⟨⟨(by omega), (by omega)⟩, by omega⟩
          ·
            refine T_qEq ⟨by decide, by decide⟩ ⟨by decide, by decide⟩ (fun h30 => ?_) (fun h30 => ?_)
            ·
              unfold b_X12_couldCome_115
              unfold b_X12_couldCome_116
              refine T_qNm (fun n1 e_n1 => ?_)
              unfold b_X12_couldCome_118
              refine T_some ?_
              show ((0 ≤ n1 ∧ n1 ≤ (x3 + 1)) ∧ (0 ≤ (x3 + 1) ∧ (x3 + 1) ≤ o.1 0 27)) ∧ (o.1 0 27 - (x3 + 1)).toNat < (o.1 0 27 - x3).toNat
              exact ⟨⟨(by omega), (by omega)⟩, by omega⟩
            ·
              unfold b_X12_couldCome_116
              refine T_qNm (fun n1 e_n1 => ?_)
              unfold b_X12_couldCome_118
              refine T_some ?_
              show ((0 ≤ n1 ∧ n1 ≤ (x3 + 1)) ∧ (0 ≤ (x3 + 1) ∧ (x3 + 1) ≤ o.1 0 27)) ∧ (o.1 0 27 - (x3 + 1)).toNat < (o.1 0 27 - x3).toNat
              exact ⟨⟨(by omega), (by omega)⟩, by omega⟩
        ·
          refine T_qIn ⟨by omega, by omega⟩ ?_
          refine T_qNm (fun n5 e_n5 => ?_)
          have b_n5 : 0 ≤ n5 ∧ n5 ≤ 999 := by rw [e_n5]; exact bM_36 hB_o _
          refine T_qLt ⟨by omega, by omega⟩ ⟨by decide, by decide⟩ (fun h31 => ?_) (fun h31 => ?_)
          ·
            unfold b_X12_couldCome_93
            unfold b_X12_couldCome_98
            refine T_qEq ⟨by decide, by decide⟩ ⟨by decide, by decide⟩ (fun h32 => ?_) (fun h32 => ?_)
            ·
              unfold b_X12_couldCome_115
              unfold b_X12_couldCome_116
              refine T_qNm (fun n1 e_n1 => ?_)
              unfold b_X12_couldCome_118
              refine T_some ?_
              show ((0 ≤ n1 ∧ n1 ≤ (x3 + 1)) ∧ (0 ≤ (x3 + 1) ∧ (x3 + 1) ≤ o.1 0 27)) ∧ (o.1 0 27 - (x3 + 1)).toNat < (o.1 0 27 - x3).toNat
              exact ⟨⟨(by omega), (by omega)⟩, by omega⟩
            ·
              refine T_qEq ⟨by decide, by decide⟩ ⟨by decide, by decide⟩ (fun h33 => ?_) (fun h33 => ?_)
              ·
                unfold b_X12_couldCome_115
                unfold b_X12_couldCome_116
                refine T_qNm (fun n1 e_n1 => ?_)
                unfold b_X12_couldCome_118
                refine T_some ?_
                show ((0 ≤ n1 ∧ n1 ≤ (x3 + 1)) ∧ (0 ≤ (x3 + 1) ∧ (x3 + 1) ≤ o.1 0 27)) ∧ (o.1 0 27 - (x3 + 1)).toNat < (o.1 0 27 - x3).toNat
                exact ⟨⟨(by omega), (by omega)⟩, by omega⟩
              ·
                unfold b_X12_couldCome_116
                refine T_qNm (fun n1 e_n1 => ?_)
                unfold b_X12_couldCome_118
                refine T_some ?_
                show ((0 ≤ n1 ∧ n1 ≤ (x3 + 1)) ∧ (0 ≤ (x3 + 1) ∧ (x3 + 1) ≤ o.1 0 27)) ∧ (o.1 0 27 - (x3 + 1)).toNat < (o.1 0 27 - x3).toNat
                exact ⟨⟨(by omega), (by omega)⟩, by omega⟩
          ·
            refine T_qIn ⟨by omega, by omega⟩ ?_
            refine T_qNm (fun n7 e_n7 => ?_)
            have b_n7 : 0 ≤ n7 ∧ n7 ≤ 999 := by rw [e_n7]; exact bM_36 hB_o _
            refine T_qLt ⟨by decide, by decide⟩ ⟨by omega, by omega⟩ (fun h34 => ?_) (fun h34 => ?_)
            ·
              unfold b_X12_couldCome_93
              unfold b_X12_couldCome_98
              refine T_qEq ⟨by decide, by decide⟩ ⟨by decide, by decide⟩ (fun h35 => ?_) (fun h35 => ?_)
              ·
                unfold b_X12_couldCome_115
                unfold b_X12_couldCome_116
                refine T_qNm (fun n1 e_n1 => ?_)
                unfold b_X12_couldCome_118
                refine T_some ?_
                show ((0 ≤ n1 ∧ n1 ≤ (x3 + 1)) ∧ (0 ≤ (x3 + 1) ∧ (x3 + 1) ≤ o.1 0 27)) ∧ (o.1 0 27 - (x3 + 1)).toNat < (o.1 0 27 - x3).toNat
                exact ⟨⟨(by omega), (by omega)⟩, by omega⟩
              ·
                refine T_qEq ⟨by decide, by decide⟩ ⟨by decide, by decide⟩ (fun h36 => ?_) (fun h36 => ?_)
                ·
                  unfold b_X12_couldCome_115
                  unfold b_X12_couldCome_116
                  refine T_qNm (fun n1 e_n1 => ?_)
                  unfold b_X12_couldCome_118
                  refine T_some ?_
                  show ((0 ≤ n1 ∧ n1 ≤ (x3 + 1)) ∧ (0 ≤ (x3 + 1) ∧ (x3 + 1) ≤ o.1 0 27)) ∧ (o.1 0 27 - (x3 + 1)).toNat < (o.1 0 27 - x3).toNat
                  exact ⟨⟨(by omega), (by omega)⟩, by omega⟩
                ·
                  unfold b_X12_couldCome_116
                  refine T_qNm (fun n1 e_n1 => ?_)
                  unfold b_X12_couldCome_118
                  refine T_some ?_
                  show ((0 ≤ n1 ∧ n1 ≤ (x3 + 1)) ∧ (0 ≤ (x3 + 1) ∧ (x3 + 1) ≤ o.1 0 27)) ∧ (o.1 0 27 - (x3 + 1)).toNat < (o.1 0 27 - x3).toNat
                  exact ⟨⟨(by omega), (by omega)⟩, by omega⟩
            ·
              unfold b_X12_couldCome_98
              refine T_qEq ⟨by decide, by decide⟩ ⟨by decide, by decide⟩ (fun h37 => ?_) (fun h37 => ?_)
              ·
                unfold b_X12_couldCome_115
                unfold b_X12_couldCome_116
                refine T_qNm (fun n1 e_n1 => ?_)
                unfold b_X12_couldCome_118
                refine T_some ?_
                show ((0 ≤ n1 ∧ n1 ≤ (x3 + 1)) ∧ (0 ≤ (x3 + 1) ∧ (x3 + 1) ≤ o.1 0 27)) ∧ (o.1 0 27 - (x3 + 1)).toNat < (o.1 0 27 - x3).toNat
                exact ⟨⟨(by omega), (by omega)⟩, by omega⟩
              ·
                refine T_qEq ⟨by decide, by decide⟩ ⟨by decide, by decide⟩ (fun h38 => ?_) (fun h38 => ?_)
                ·
                  unfold b_X12_couldCome_115
                  unfold b_X12_couldCome_116
                  refine T_qNm (fun n1 e_n1 => ?_)
                  unfold b_X12_couldCome_118
                  refine T_some ?_
                  show ((0 ≤ n1 ∧ n1 ≤ (x3 + 1)) ∧ (0 ≤ (x3 + 1) ∧ (x3 + 1) ≤ o.1 0 27)) ∧ (o.1 0 27 - (x3 + 1)).toNat < (o.1 0 27 - x3).toNat
                  exact ⟨⟨(by omega), (by omega)⟩, by omega⟩
                ·
                  unfold b_X12_couldCome_116
                  refine T_qNm (fun n1 e_n1 => ?_)
                  unfold b_X12_couldCome_118
                  refine T_some ?_
                  show ((0 ≤ n1 ∧ n1 ≤ (x3 + 1)) ∧ (0 ≤ (x3 + 1) ∧ (x3 + 1) ≤ o.1 0 27)) ∧ (o.1 0 27 - (x3 + 1)).toNat < (o.1 0 27 - x3).toNat
                  exact ⟨⟨(by omega), (by omega)⟩, by omega⟩
  ·
    refine T_some ?_
    show (0 ≤ x2 ∧ x2 ≤ o.1 0 27)
    exact (by omega)
set_option maxRecDepth 20000 in
set_option maxHeartbeats 4000000 in
theorem t_X12_couldCome (o : OO) (x1 : Int) (hB_o : BoxM o) (k0 : 0 ≤ x1 ∧ x1 ≤ 23) : T (s_X12_couldCome o x1) (fun v => (0 ≤ v ∧ v ≤ 40)) := by
  have g0_27_o := bM_0_27 hB_o
  unfold s_X12_couldCome
  unfold e_X12_couldCome_4
  refine T_qB (tl_X12_couldCome_4 o x1 0 0 hB_o (by omega) (by omega) (by omega)) (fun r39 hc_r39 hp40 => ?_)
  obtain ⟨x2_41, q_x2_41⟩ : ∃ q, q = r39 := ⟨_, rfl⟩
  subst q_x2_41
  replace hp40 : (0 ≤ x2_41 ∧ x2_41 ≤ o.1 0 27) := hp40
  show T (b_X12_couldCome_124 o x2_41) _
  unfold b_X12_couldCome_124
  refine T_some ?_
  show (0 ≤ x2_41 ∧ x2_41 ≤ 40)
  exact (by omega)
set_option maxRecDepth 20000 in
set_option maxHeartbeats 4000000 in
theorem t_X12_isVoidHearing (o : OO) (x1 : Int) (hB_o : BoxM o) (k0 : 0 ≤ x1 ∧ x1 ≤ 23) : T (s_X12_isVoidHearing o x1) (fun v => (0 ≤ v ∧ v ≤ 1)) := by
  unfold s_X12_isVoidHearing
  refine T_qIn ⟨by omega, by omega⟩ ?_
  refine T_qNm (fun n2 e_n2 => ?_)
  have b_n2 : 0 ≤ n2 ∧ n2 ≤ 999 := by rw [e_n2]; exact bM_37 hB_o _
  refine T_qIn ⟨by omega, by omega⟩ ?_
  refine T_qNm (fun n4 e_n4 => ?_)
  have b_n4 : 0 ≤ n4 ∧ n4 ≤ 999 := by rw [e_n4]; exact bM_26 hB_o _
  refine T_qIn ⟨by omega, by omega⟩ ?_
  refine T_qNm (fun n6 e_n6 => ?_)
  have b_n6 : 0 ≤ n6 ∧ n6 ≤ 999 := by rw [e_n6]; exact bM_26 hB_o _
  refine T_qIn ⟨by omega, by omega⟩ ?_
  refine T_qNm (fun n8 e_n8 => ?_)
  have b_n8 : 0 ≤ n8 ∧ n8 ≤ 999 := by rw [e_n8]; exact bM_26 hB_o _
  refine T_qB (t_X12_inForce o 7 n6 n8 hB_o (by omega) (by omega) (by omega)) (fun r9 hc_r9 hp1 => ?_)
  replace hp1 : (0 ≤ r9 ∧ r9 ≤ 9999) := hp1
  refine T_qLt ⟨by omega, by omega⟩ ⟨by omega, by omega⟩ (fun h2 => ?_) (fun h2 => ?_)
  ·
    unfold b_X12_isVoidHearing_42
    unfold b_X12_isVoidHearing_47
    refine T_qZ (Or.inr rfl) ?_
    refine T_some ?_
    show (0 ≤ 1 ∧ 1 ≤ 1)
    exact (by omega)
  ·
    refine T_qB (t_X12_couldCome o x1 hB_o (by omega)) (fun r11 hc_r11 hp3 => ?_)
    replace hp3 : (0 ≤ r11 ∧ r11 ≤ 40) := hp3
    refine T_qEq ⟨by omega, by omega⟩ ⟨by decide, by decide⟩ (fun h4 => ?_) (fun h4 => ?_)
    ·
      unfold b_X12_isVoidHearing_42
      unfold b_X12_isVoidHearing_47
      refine T_qZ (Or.inr rfl) ?_
      refine T_some ?_
      show (0 ≤ 1 ∧ 1 ≤ 1)
      exact (by omega)
    ·
      unfold b_X12_isVoidHearing_47
      refine T_qZ (Or.inl rfl) ?_
      refine T_some ?_
      show (0 ≤ 0 ∧ 0 ≤ 1)
      exact (by omega)
set_option maxRecDepth 20000 in
set_option maxHeartbeats 4000000 in
theorem tl_X12_isVoidTaking_4 (o : OO) (x1 : Int) (i_x2 : Int) (i_x3 : Int) (hB_o : BoxM o) (k0 : 0 ≤ x1 ∧ x1 ≤ 23) (v0 : 0 ≤ i_x2 ∧ i_x2 ≤ 1) (v1 : 0 ≤ i_x3 ∧ i_x3 ≤ o.1 0 32) : T (loopW (fun s => l_X12_isVoidTaking_4 o x1 s.1 s.2) (i_x2, i_x3)) (fun r => (0 ≤ r ∧ r ≤ 1)) := by
  refine T_loop (fun s => (0 ≤ s.1 ∧ s.1 ≤ 1) ∧ (0 ≤ s.2 ∧ s.2 ≤ o.1 0 32)) (fun s => (o.1 0 32 - s.2).toNat) (by exact ⟨v0, v1⟩) (fun s hs => ?_)
  obtain ⟨x2, x3⟩ := s
  replace hs : (0 ≤ x2 ∧ x2 ≤ 1) ∧ (0 ≤ x3 ∧ x3 ≤ o.1 0 32) := hs
  obtain ⟨w0, w1⟩ := hs
  have g0_32_o := bM_0_32 hB_o
  show T (l_X12_isVoidTaking_4 o x1 x2 x3) _
  unfold l_X12_isVoidTaking_4
  refine T_qLt ⟨by omega, by omega⟩ ⟨by omega, by omega⟩ (fun h1 => ?_) (fun h1 => ?_)
  ·
    refine T_qEq ⟨by omega, by omega⟩ ⟨by decide, by decide⟩ (fun h2 => ?_) (fun h2 => ?_)
    ·
      refine T_qIn ⟨by omega, by omega⟩ ?_
      refine T_qNm (fun n2 e_n2 => ?_)
      have b_n2 : 0 ≤ n2 ∧ n2 ≤ 6 := by rw [e_n2]; exact bM_25 hB_o _
      refine T_qEq ⟨by omega, by omega⟩ ⟨by decide, by decide⟩ (fun h3 => ?_) (fun h3 => ?_)
      ·
        refine T_qIn ⟨by omega, by omega⟩ ?_
        refine T_qNm (fun n4 e_n4 => ?_)
        have b_n4 : -9 ≤ n4 ∧ n4 ≤ 23 := by rw [e_n4]; exact bM_27 hB_o _
        refine T_qIn ⟨by omega, by omega⟩ ?_
        refine T_qNm (fun n6 e_n6 => ?_)
        have b_n6 : -9 ≤ n6 ∧ n6 ≤ 23 := by rw [e_n6]; exact bM_27 hB_o _
        refine T_qEq ⟨by omega, by omega⟩ ⟨by omega, by omega⟩ (fun h4 => ?_) (fun h4 => ?_)
        ·
          refine T_qIn ⟨by omega, by omega⟩ ?_
          refine T_qNm (fun n8 e_n8 => ?_)
          have b_n8 : 0 ≤ n8 ∧ n8 ≤ 999 := by rw [e_n8]; exact bM_37 hB_o _
          refine T_qIn ⟨by omega, by omega⟩ ?_
          refine T_qNm (fun n10 e_n10 => ?_)
          have b_n10 : 0 ≤ n10 ∧ n10 ≤ 999 := by rw [e_n10]; exact bM_26 hB_o _
          refine T_qLt ⟨by omega, by omega⟩ ⟨by omega, by omega⟩ (fun h5 => ?_) (fun h5 => ?_)
          ·
            unfold b_X12_isVoidTaking_69
            unfold b_X12_isVoidTaking_70
            refine T_some ?_
            show ((0 ≤ 0 ∧ 0 ≤ 1) ∧ (0 ≤ (x3 + 1) ∧ (x3 + 1) ≤ o.1 0 32)) ∧ (o.1 0 32 - (x3 + 1)).toNat < (o.1 0 32 - x3).toNat
            exact ⟨⟨(by omega), (by omega)⟩, by omega⟩
          ·
            refine T_qB (t_X12_isVoidHearing o x3 hB_o (by omega)) (fun r11 hc_r11 hp6 => ?_)
            replace hp6 : (0 ≤ r11 ∧ r11 ≤ 1) := hp6
            refine T_qEq ⟨by omega, by omega⟩ ⟨by decide, by decide⟩ (fun h7 => ?_) (fun h7 => ?_)
            ·
              unfold b_X12_isVoidTaking_65
              unfold b_X12_isVoidTaking_70
              refine T_some ?_
              show ((0 ≤ 1 ∧ 1 ≤ 1) ∧ (0 ≤ (x3 + 1) ∧ (x3 + 1) ≤ o.1 0 32)) ∧ (o.1 0 32 - (x3 + 1)).toNat < (o.1 0 32 - x3).toNat
              exact ⟨⟨(by omega), (by omega)⟩, by omega⟩
            ·
              unfold b_X12_isVoidTaking_69
              unfold b_X12_isVoidTaking_70
              refine T_some ?_
              show ((0 ≤ 0 ∧ 0 ≤ 1) ∧ (0 ≤ (x3 + 1) ∧ (x3 + 1) ≤ o.1 0 32)) ∧ (o.1 0 32 - (x3 + 1)).toNat < (o.1 0 32 - x3).toNat
              exact ⟨⟨(by omega), (by omega)⟩, by omega⟩
        ·
          unfold b_X12_isVoidTaking_69
          unfold b_X12_isVoidTaking_70
          refine T_some ?_
          show ((0 ≤ 0 ∧ 0 ≤ 1) ∧ (0 ≤ (x3 + 1) ∧ (x3 + 1) ≤ o.1 0 32)) ∧ (o.1 0 32 - (x3 + 1)).toNat < (o.1 0 32 - x3).toNat
          exact ⟨⟨(by omega), (by omega)⟩, by omega⟩
      ·
        unfold b_X12_isVoidTaking_69
        unfold b_X12_isVoidTaking_70
        refine T_some ?_
        show ((0 ≤ 0 ∧ 0 ≤ 1) ∧ (0 ≤ (x3 + 1) ∧ (x3 + 1) ≤ o.1 0 32)) ∧ (o.1 0 32 - (x3 + 1)).toNat < (o.1 0 32 - x3).toNat
        exact ⟨⟨(by omega), (by omega)⟩, by omega⟩
    ·
      unfold b_X12_isVoidTaking_65
      unfold b_X12_isVoidTaking_70
      refine T_some ?_
      show ((0 ≤ 1 ∧ 1 ≤ 1) ∧ (0 ≤ (x3 + 1) ∧ (x3 + 1) ≤ o.1 0 32)) ∧ (o.1 0 32 - (x3 + 1)).toNat < (o.1 0 32 - x3).toNat
      exact ⟨⟨(by omega), (by omega)⟩, by omega⟩
  ·
    refine T_some ?_
    show (0 ≤ x2 ∧ x2 ≤ 1)
    exact (by omega)
set_option maxRecDepth 20000 in
set_option maxHeartbeats 4000000 in
theorem t_X12_isVoidTaking (o : OO) (x1 : Int) (hB_o : BoxM o) (k0 : 0 ≤ x1 ∧ x1 ≤ 23) : T (s_X12_isVoidTaking o x1) (fun v => (0 ≤ v ∧ v ≤ 1)) := by
  have g0_32_o := bM_0_32 hB_o
  unfold s_X12_isVoidTaking
  unfold e_X12_isVoidTaking_4
  refine T_qB (tl_X12_isVoidTaking_4 o x1 0 0 hB_o (by omega) (by omega) (by omega)) (fun r8 hc_r8 hp9 => ?_)
  obtain ⟨x2_10, q_x2_10⟩ : ∃ q, q = r8 := ⟨_, rfl⟩
  subst q_x2_10
  replace hp9 : (0 ≤ x2_10 ∧ x2_10 ≤ 1) := hp9
  show T (b_X12_isVoidTaking_77 o x2_10) _
  unfold b_X12_isVoidTaking_77
  refine T_qEq ⟨by omega, by omega⟩ ⟨by decide, by decide⟩ (fun h11 => ?_) (fun h11 => ?_)
  ·
    unfold b_X12_isVoidTaking_86
    refine T_qZ (Or.inr rfl) ?_
    refine T_some ?_
    show (0 ≤ 1 ∧ 1 ≤ 1)
    exact (by omega)
  ·
    unfold b_X12_isVoidTaking_86
    refine T_qZ (Or.inl rfl) ?_
    refine T_some ?_
    show (0 ≤ 0 ∧ 0 ≤ 1)
    exact (by omega)
set_option maxRecDepth 20000 in
set_option maxHeartbeats 4000000 in
theorem t_X12_isVoid (o : OO) (x1 : Int) (hB_o : BoxM o) (k0 : inR x1) : T (s_X12_isVoid o x1) (fun v => BoxM v.2 ∧ (Fr [(0, 0), (1, 9999)] o v.2)) := by
  have fr_o : Fr [(0, 0), (1, 9999)] o o := Fr.rf
  have g0_32_o := bM_0_32 hB_o
  unfold s_X12_isVoid
  refine T_qB (t_X12_isMark o x1 hB_o (by omega)) (fun r7 hc_r7 hp1 => ?_)
  replace hp1 : ((r7 = 1 ∧ 0 ≤ x1 ∧ x1 < o.1 0 32) ∨ (r7 = 0 ∧ (x1 < 0 ∨ o.1 0 32 ≤ x1))) := hp1
  refine T_qEq ⟨by omega, by omega⟩ ⟨by decide, by decide⟩ (fun h2 => ?_) (fun h2 => ?_)
  ·
    refine T_some ?_
    show BoxM o ∧ (Fr [(0, 0), (1, 9999)] o o)
    exact ⟨hB_o, fr_o⟩
  ·
    refine T_qIn ⟨by omega, by omega⟩ ?_
    refine T_qNm (fun n10 e_n10 => ?_)
    have b_n10 : 0 ≤ n10 ∧ n10 ≤ 6 := by rw [e_n10]; exact bM_25 hB_o _
    refine T_qEq ⟨by omega, by omega⟩ ⟨by decide, by decide⟩ (fun h3 => ?_) (fun h3 => ?_)
    ·
      unfold b_X12_isVoid_37
      refine T_qIn ⟨by omega, by omega⟩ ?_
      refine T_qNm (fun n2 e_n2 => ?_)
      have b_n2 : 0 ≤ n2 ∧ n2 ≤ 6 := by rw [e_n2]; exact bM_25 hB_o _
      refine T_qEq ⟨by omega, by omega⟩ ⟨by decide, by decide⟩ (fun h4 => ?_) (fun h4 => ?_)
      ·
        refine T_qB (t_X12_isVoidHearing o x1 hB_o (by omega)) (fun r5 hc_r5 hp5 => ?_)
        replace hp5 : (0 ≤ r5 ∧ r5 ≤ 1) := hp5
        refine T_qEq ⟨by omega, by omega⟩ ⟨by decide, by decide⟩ (fun h6 => ?_) (fun h6 => ?_)
        ·
          unfold b_X12_isVoid_71
          unfold b_X12_isVoid_72
          refine T_some ?_
          show BoxM o ∧ (Fr [(0, 0), (1, 9999)] o o)
          exact ⟨hB_o, fr_o⟩
        ·
          unfold b_X12_isVoid_67
          unfold b_X12_isVoid_72
          refine T_some ?_
          show BoxM o ∧ (Fr [(0, 0), (1, 9999)] o o)
          exact ⟨hB_o, fr_o⟩
      ·
        refine T_qB (t_X12_isVoidTaking o x1 hB_o (by omega)) (fun r3 hc_r3 hp7 => ?_)
        replace hp7 : (0 ≤ r3 ∧ r3 ≤ 1) := hp7
        refine T_qEq ⟨by omega, by omega⟩ ⟨by decide, by decide⟩ (fun h8 => ?_) (fun h8 => ?_)
        ·
          unfold b_X12_isVoid_71
          unfold b_X12_isVoid_72
          refine T_some ?_
          show BoxM o ∧ (Fr [(0, 0), (1, 9999)] o o)
          exact ⟨hB_o, fr_o⟩
        ·
          unfold b_X12_isVoid_67
          unfold b_X12_isVoid_72
          refine T_some ?_
          show BoxM o ∧ (Fr [(0, 0), (1, 9999)] o o)
          exact ⟨hB_o, fr_o⟩
    ·
      refine T_qIn ⟨by omega, by omega⟩ ?_
      refine T_qNm (fun n12 e_n12 => ?_)
      have b_n12 : 0 ≤ n12 ∧ n12 ≤ 6 := by rw [e_n12]; exact bM_25 hB_o _
      refine T_qEq ⟨by omega, by omega⟩ ⟨by decide, by decide⟩ (fun h9 => ?_) (fun h9 => ?_)
      ·
        unfold b_X12_isVoid_37
        refine T_qIn ⟨by omega, by omega⟩ ?_
        refine T_qNm (fun n2 e_n2 => ?_)
        have b_n2 : 0 ≤ n2 ∧ n2 ≤ 6 := by rw [e_n2]; exact bM_25 hB_o _
        refine T_qEq ⟨by omega, by omega⟩ ⟨by decide, by decide⟩ (fun h10 => ?_) (fun h10 => ?_)
        ·
          refine T_qB (t_X12_isVoidHearing o x1 hB_o (by omega)) (fun r5 hc_r5 hp11 => ?_)
          replace hp11 : (0 ≤ r5 ∧ r5 ≤ 1) := hp11
          refine T_qEq ⟨by omega, by omega⟩ ⟨by decide, by decide⟩ (fun h12 => ?_) (fun h12 => ?_)
          ·
            unfold b_X12_isVoid_71
            unfold b_X12_isVoid_72
            refine T_some ?_
            show BoxM o ∧ (Fr [(0, 0), (1, 9999)] o o)
            exact ⟨hB_o, fr_o⟩
          ·
            unfold b_X12_isVoid_67
            unfold b_X12_isVoid_72
            refine T_some ?_
            show BoxM o ∧ (Fr [(0, 0), (1, 9999)] o o)
            exact ⟨hB_o, fr_o⟩
        ·
          refine T_qB (t_X12_isVoidTaking o x1 hB_o (by omega)) (fun r3 hc_r3 hp13 => ?_)
          replace hp13 : (0 ≤ r3 ∧ r3 ≤ 1) := hp13
          refine T_qEq ⟨by omega, by omega⟩ ⟨by decide, by decide⟩ (fun h14 => ?_) (fun h14 => ?_)
          ·
            unfold b_X12_isVoid_71
            unfold b_X12_isVoid_72
            refine T_some ?_
            show BoxM o ∧ (Fr [(0, 0), (1, 9999)] o o)
            exact ⟨hB_o, fr_o⟩
          ·
            unfold b_X12_isVoid_67
            unfold b_X12_isVoid_72
            refine T_some ?_
            show BoxM o ∧ (Fr [(0, 0), (1, 9999)] o o)
            exact ⟨hB_o, fr_o⟩
      ·
        refine T_qB2 (t_X12_meets o 3 hB_o (by omega)) (fun r13 o15 hc_r13 hp15 => ?_)
        replace hp15 : BoxM o15 ∧ (Fr [(0, 0), (1, 9999)] o o15) ∧ (r13 = -3) := hp15
        obtain ⟨hB_o15, fc_o15, hp15⟩ := hp15
        have fr_o15 : Fr [(0, 0), (1, 9999)] o o15 := Fr.tr fr_o fc_o15 rfl
        have g0_32_o15 : o15.1 0 32 = o.1 0 32 := fc_o15.1 0 32 rfl
        refine T_some ?_
        show BoxM o15 ∧ (Fr [(0, 0), (1, 9999)] o o15)
        exact ⟨hB_o15, fr_o15⟩
set_option maxRecDepth 20000 in
set_option maxHeartbeats 4000000 in
theorem t_X12_judge (o : OO) (x1 : Int) (x2 : Int) (x3 : Int) (hB_o : BoxM o) (k0 : inR x1) (k1 : inR x2) (k2 : inR x3) : T (s_X12_judge o x1 x2 x3) (fun v => BoxM v.2 ∧ (Fr [(0, 0), (0, 2), (1, 9999)] o v.2)) := by
  have fr_o : Fr [(0, 0), (0, 2), (1, 9999)] o o := Fr.rf
  have g0_32_o := bM_0_32 hB_o
  unfold s_X12_judge
  refine T_qB (t_X12_isMark o x1 hB_o (by omega)) (fun r1 hc_r1 hp1 => ?_)
  replace hp1 : ((r1 = 1 ∧ 0 ≤ x1 ∧ x1 < o.1 0 32) ∨ (r1 = 0 ∧ (x1 < 0 ∨ o.1 0 32 ≤ x1))) := hp1
  refine T_qEq ⟨by omega, by omega⟩ ⟨by decide, by decide⟩ (fun h2 => ?_) (fun h2 => ?_)
  ·
    unfold b_X12_judge_22
    refine T_some ?_
    show BoxM o ∧ (Fr [(0, 0), (0, 2), (1, 9999)] o o)
    exact ⟨hB_o, fr_o⟩
  ·
    refine T_qB (t_X12_isRow x2 (by omega)) (fun r3 hc_r3 hp3 => ?_)
    replace hp3 : ((r3 = 1 ∧ 0 ≤ x2 ∧ x2 ≤ 5) ∨ (r3 = 0 ∧ (x2 < 0 ∨ 5 < x2))) := hp3
    refine T_qEq ⟨by omega, by omega⟩ ⟨by decide, by decide⟩ (fun h4 => ?_) (fun h4 => ?_)
    ·
      unfold b_X12_judge_22
      refine T_some ?_
      show BoxM o ∧ (Fr [(0, 0), (0, 2), (1, 9999)] o o)
      exact ⟨hB_o, fr_o⟩
    ·
      refine T_qB (t_X12_isRow x3 (by omega)) (fun r5 hc_r5 hp5 => ?_)
      replace hp5 : ((r5 = 1 ∧ 0 ≤ x3 ∧ x3 ≤ 5) ∨ (r5 = 0 ∧ (x3 < 0 ∨ 5 < x3))) := hp5
      refine T_qEq ⟨by omega, by omega⟩ ⟨by decide, by decide⟩ (fun h6 => ?_) (fun h6 => ?_)
      ·
        unfold b_X12_judge_22
        refine T_some ?_
        show BoxM o ∧ (Fr [(0, 0), (0, 2), (1, 9999)] o o)
        exact ⟨hB_o, fr_o⟩
      ·
        refine T_qB (t_X12_isLine o x1 hB_o (by omega)) (fun r7 hc_r7 hp7 => ?_)
        replace hp7 : (0 ≤ r7 ∧ r7 ≤ 1) := hp7
        refine T_qEq ⟨by omega, by omega⟩ ⟨by decide, by decide⟩ (fun h8 => ?_) (fun h8 => ?_)
        ·
          refine T_qB2 (t_X12_meets o 3 hB_o (by omega)) (fun r17 o19 hc_r17 hp9 => ?_)
          replace hp9 : BoxM o19 ∧ (Fr [(0, 0), (1, 9999)] o o19) ∧ (r17 = -3) := hp9
          obtain ⟨hB_o19, fc_o19, hp9⟩ := hp9
          have fr_o19 : Fr [(0, 0), (0, 2), (1, 9999)] o o19 := Fr.tr fr_o fc_o19 rfl
          have g0_32_o19 : o19.1 0 32 = o.1 0 32 := fc_o19.1 0 32 rfl
          refine T_some ?_
          show BoxM o19 ∧ (Fr [(0, 0), (0, 2), (1, 9999)] o o19)
          exact ⟨hB_o19, fr_o19⟩
        ·
          refine T_qB2 (t_X12_askedWeights o x2 x3 hB_o (by omega) (by omega)) (fun r9 o11 hc_r9 hp10 => ?_)
          replace hp10 : BoxM o11 ∧ (Fr [(0, 0), (1, 9999)] o o11) ∧ ((r9 = 0 ∧ W4 o11 x2 4) ∨ (r9 < 0 ∧ inR r9)) := hp10
          obtain ⟨hB_o11, fc_o11, hp10⟩ := hp10
          have fr_o11 : Fr [(0, 0), (0, 2), (1, 9999)] o o11 := Fr.tr fr_o fc_o11 rfl
          have g0_32_o11 : o11.1 0 32 = o.1 0 32 := fc_o11.1 0 32 rfl
          have hw9 : r9 < 0 ∨ W4 o11 x2 4 := hp10.elim (fun q => Or.inr q.2) (fun q => Or.inl q.1)
          refine T_qLt ⟨by omega, by omega⟩ ⟨by decide, by decide⟩ (fun h11 => ?_) (fun h11 => ?_)
          ·
            unfold b_X12_judge_68
            refine T_some ?_
            show BoxM o11 ∧ (Fr [(0, 0), (0, 2), (1, 9999)] o o11)
            exact ⟨hB_o11, fr_o11⟩
          ·
            refine T_qB (t_X12_judged o11 x1 x2 x3 hB_o11 (by omega) (by omega) (by omega) (by first | exact hw9.elim (fun q => absurd q (by omega)) (fun q => q) | assumption)) (fun r12 hc_r12 hp12 => ?_)
            replace hp12 : (inR r12) := hp12
            refine T_qB2 (t_X12_ask o11 r12 1 hB_o11) (fun r14 o16 hc_r14 hp13 => ?_)
            replace hp13 : BoxM o16 ∧ (Fr [(0, 2)] o11 o16) ∧ (r14 = 1) := hp13
            obtain ⟨hB_o16, fc_o16, hp13⟩ := hp13
            have fr_o16 : Fr [(0, 0), (0, 2), (1, 9999)] o o16 := Fr.tr fr_o11 fc_o16 rfl
            have g0_32_o16 : o16.1 0 32 = o11.1 0 32 := fc_o16.1 0 32 rfl
            unfold b_X12_judge_68
            refine T_some ?_
            show BoxM o16 ∧ (Fr [(0, 0), (0, 2), (1, 9999)] o o16)
            exact ⟨hB_o16, fr_o16⟩
set_option maxRecDepth 20000 in
set_option maxHeartbeats 4000000 in
theorem t_X12_later (o : OO) (x1 : Int) (hB_o : BoxM o) (k0 : inR x1) : T (s_X12_later o x1) (fun v => BoxM v.2 ∧ (Fr [(0, 4)] o v.2)) := by
  have fr_o : Fr [(0, 4)] o o := Fr.rf
  have g0_4_o := bM_0_4 hB_o
  unfold s_X12_later
  refine T_qLt ⟨by omega, by omega⟩ ⟨by decide, by decide⟩ (fun h1 => ?_) (fun h1 => ?_)
  ·
    unfold b_X12_later_16
    refine T_some ?_
    show BoxM o ∧ (Fr [(0, 4)] o o)
    exact ⟨hB_o, fr_o⟩
  ·
    refine T_qLt ⟨by omega, by omega⟩ ⟨by omega, by omega⟩ (fun h2 => ?_) (fun h2 => ?_)
    ·
      unfold b_X12_later_16
      refine T_some ?_
      show BoxM o ∧ (Fr [(0, 4)] o o)
      exact ⟨hB_o, fr_o⟩
    ·
      refine T_qNm (fun o1 e_o1 => ?_)
      have hB_o1 : BoxM o1 := by rw [e_o1]; exact Box.s1 hB_o (show 0 ≤ ((o.1 0 4) + x1) ∧ ((o.1 0 4) + x1) ≤ 999 from ⟨by omega, by omega⟩)
      have fr_o1 : Fr [(0, 4)] o o1 := by rw [e_o1]; exact Fr.s1 fr_o rfl
      have g0_4_o1 : o1.1 0 4 = ((o.1 0 4) + x1) := by rw [e_o1]; rfl
      refine T_some ?_
      show BoxM o1 ∧ (Fr [(0, 4)] o o1)
      exact ⟨hB_o1, fr_o1⟩
set_option maxRecDepth 20000 in
set_option maxHeartbeats 4000000 in
theorem t_X12_lay (o : OO) (x1 : Int) (x2 : Int) (x3 : Int) (hB_o : BoxM o) (k0 : inR x1) (k1 : inR x2) (k2 : inR x3) : T (s_X12_lay o x1 x2 x3) (fun v => BoxM v.2 ∧ (Fr [(0, 0), (0, 2), (1, 9999), (3, 9999)] o v.2)) := by
  have fr_o : Fr [(0, 0), (0, 2), (1, 9999), (3, 9999)] o o := Fr.rf
  unfold s_X12_lay
  refine T_qB2 (t_X12_askedRow o x1 hB_o (by omega)) (fun r1 o3 hc_r1 hp1 => ?_)
  replace hp1 : BoxM o3 ∧ (Fr [(0, 0), (1, 9999)] o o3) ∧ (r1 = -1 ∨ r1 = -3 ∨ (r1 = 0 ∧ 0 ≤ x1 ∧ x1 ≤ 5 ∧ 0 ≤ o3.1 2 x1.toNat)) := hp1
  obtain ⟨hB_o3, fc_o3, hp1⟩ := hp1
  have fr_o3 : Fr [(0, 0), (0, 2), (1, 9999), (3, 9999)] o o3 := Fr.tr fr_o fc_o3 rfl
  refine T_qLt ⟨by omega, by omega⟩ ⟨by decide, by decide⟩ (fun h2 => ?_) (fun h2 => ?_)
  ·
    refine T_some ?_
    show BoxM o3 ∧ (Fr [(0, 0), (0, 2), (1, 9999), (3, 9999)] o o3)
    exact ⟨hB_o3, fr_o3⟩
  ·
    refine T_qIn ⟨by omega, by omega⟩ ?_
    refine T_qNm (fun n5 e_n5 => ?_)
    have b_n5 : -9 ≤ n5 ∧ n5 ≤ 40 := by rw [e_n5]; exact bM_2 hB_o3 _
    refine T_qB (t_X12_in x2 0 (n5 - 1) (by omega) (by omega) (by omega)) (fun r6 hc_r6 hp3 => ?_)
    replace hp3 : ((r6 = 1 ∧ 0 ≤ x2 ∧ x2 ≤ (n5 - 1)) ∨ (r6 = 0 ∧ (x2 < 0 ∨ (n5 - 1) < x2))) := hp3
    refine T_qEq ⟨by omega, by omega⟩ ⟨by decide, by decide⟩ (fun h4 => ?_) (fun h4 => ?_)
    ·
      refine T_qB2 (t_X12_meets o3 2 hB_o3 (by omega)) (fun r13 o15 hc_r13 hp5 => ?_)
      replace hp5 : BoxM o15 ∧ (Fr [(0, 0), (1, 9999)] o3 o15) ∧ (r13 = -3) := hp5
      obtain ⟨hB_o15, fc_o15, hp5⟩ := hp5
      have fr_o15 : Fr [(0, 0), (0, 2), (1, 9999), (3, 9999)] o o15 := Fr.tr fr_o3 fc_o15 rfl
      refine T_some ?_
      show BoxM o15 ∧ (Fr [(0, 0), (0, 2), (1, 9999), (3, 9999)] o o15)
      exact ⟨hB_o15, fr_o15⟩
    ·
      refine T_qIn ⟨by omega, by omega⟩ ?_
      refine T_qNm (fun n9 e_n9 => ?_)
      have b_n9 : -2147483648 ≤ n9 ∧ n9 ≤ 2147483647 := by rw [e_n9]; exact bM_3 hB_o3 _
      refine T_qNm (fun o10 e_o10 => ?_)
      have hB_o10 : BoxM o10 := by rw [e_o10]; exact Box.s1 hB_o3 (show True from trivial)
      have fr_o10 : Fr [(0, 0), (0, 2), (1, 9999), (3, 9999)] o o10 := by rw [e_o10]; exact Fr.s1 fr_o3 rfl
      refine T_qIn ⟨by omega, by omega⟩ ?_
      refine T_qNm (fun o12 e_o12 => ?_)
      have hB_o12 : BoxM o12 := by rw [e_o12]; exact Box.s1 hB_o10 (show -2147483648 ≤ x3 ∧ x3 ≤ 2147483647 from ⟨by omega, by omega⟩)
      have fr_o12 : Fr [(0, 0), (0, 2), (1, 9999), (3, 9999)] o o12 := by rw [e_o12]; exact Fr.s1 fr_o10 rfl
      refine T_some ?_
      show BoxM o12 ∧ (Fr [(0, 0), (0, 2), (1, 9999), (3, 9999)] o o12)
      exact ⟨hB_o12, fr_o12⟩
