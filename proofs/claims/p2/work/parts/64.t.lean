set_option maxHeartbeats 4000000 in
theorem tl_X12_heard_6 (o : OO) (x1 : Int) (x2 : Int) (i_x3 : Int) (i_x4 : Int) (hB_o : BoxM o) (k0 : inR x1) (k1 : inR x2) (v0 : 0 ≤ i_x4 ∧ i_x4 ≤ o.1 0 52) (v1 : -9 ≤ i_x3 ∧ i_x3 ≤ 999) : T (loopW (fun s => l_X12_heard_6 o x1 x2 s.1 s.2) (i_x3, i_x4)) (fun r => (-9 ≤ r ∧ r ≤ 999)) := by
  refine T_loop (fun s => (0 ≤ s.2 ∧ s.2 ≤ o.1 0 52) ∧ (-9 ≤ s.1 ∧ s.1 ≤ 999)) (fun s => (o.1 0 52 - s.2).toNat) ⟨v0, v1⟩ (fun s hs => ?_)
  obtain ⟨x3, x4⟩ := s
  have hs : (0 ≤ x4 ∧ x4 ≤ o.1 0 52) ∧ (-9 ≤ x3 ∧ x3 ≤ 999) := hs
  obtain ⟨w0, w1⟩ := hs
  have g0_52_o := bM_0_52 hB_o
  show T (l_X12_heard_6 o x1 x2 x3 x4) _
  unfold l_X12_heard_6
  refine T_qLt ⟨by omega, by omega⟩ ⟨by omega, by omega⟩ (fun h1 => ?_) (fun h1 => ?_)
  ·
    refine T_qIn ⟨by omega, by omega⟩ ?_
    refine T_qNm (fun n2 e_n2 => ?_)
    have b_n2 : 0 ≤ n2 ∧ n2 ≤ 39 := by rw [e_n2]; exact bM_43 hB_o _
    refine T_qEq ⟨by omega, by omega⟩ ⟨by omega, by omega⟩ (fun h2 => ?_) (fun h2 => ?_)
    ·
      refine T_qIn ⟨by omega, by omega⟩ ?_
      refine T_qNm (fun n4 e_n4 => ?_)
      have b_n4 : 0 ≤ n4 ∧ n4 ≤ 23 := by rw [e_n4]; exact bM_44 hB_o _
      refine T_qEq ⟨by omega, by omega⟩ ⟨by omega, by omega⟩ (fun h3 => ?_) (fun h3 => ?_)
      ·
        refine T_qIn ⟨by omega, by omega⟩ ?_
        refine T_qNm (fun n6 e_n6 => ?_)
        have b_n6 : 0 ≤ n6 ∧ n6 ≤ 999 := by rw [e_n6]; exact bM_45 hB_o _
        unfold b_X12_heard_48
        refine T_some ?_
        show ((0 ≤ (x4 + 1) ∧ (x4 + 1) ≤ o.1 0 52) ∧ (-9 ≤ n6 ∧ n6 ≤ 999)) ∧ (o.1 0 52 - (x4 + 1)).toNat < (o.1 0 52 - x4).toNat
        exact ⟨⟨(by omega), (by omega)⟩, by omega⟩
      ·
        unfold b_X12_heard_47
        unfold b_X12_heard_48
        refine T_some ?_
        show ((0 ≤ (x4 + 1) ∧ (x4 + 1) ≤ o.1 0 52) ∧ (-9 ≤ x3 ∧ x3 ≤ 999)) ∧ (o.1 0 52 - (x4 + 1)).toNat < (o.1 0 52 - x4).toNat
        exact ⟨⟨(by omega), (by omega)⟩, by omega⟩
    ·
      unfold b_X12_heard_47
      unfold b_X12_heard_48
      refine T_some ?_
      show ((0 ≤ (x4 + 1) ∧ (x4 + 1) ≤ o.1 0 52) ∧ (-9 ≤ x3 ∧ x3 ≤ 999)) ∧ (o.1 0 52 - (x4 + 1)).toNat < (o.1 0 52 - x4).toNat
      exact ⟨⟨(by omega), (by omega)⟩, by omega⟩
  ·
    refine T_some ?_
    show (-9 ≤ x3 ∧ x3 ≤ 999)
    exact (by omega)
set_option maxHeartbeats 4000000 in
theorem t_X12_heard (o : OO) (x1 : Int) (x2 : Int) (hB_o : BoxM o) (k0 : inR x1) (k1 : inR x2) : T (s_X12_heard o x1 x2) (fun v => (-9 ≤ v ∧ v ≤ 999)) := by
  have g0_52_o := bM_0_52 hB_o
  unfold s_X12_heard
  unfold e_X12_heard_6
  refine T_qB (tl_X12_heard_6 o x1 x2 (-9) 0 hB_o (by omega) (by omega) (by omega) (by omega)) (fun r4 hc_r4 hp5 => ?_)
  obtain ⟨x3_6, q_x3_6⟩ : ∃ q, q = r4 := ⟨_, rfl⟩
  subst q_x3_6
  have hp5 : (-9 ≤ x3_6 ∧ x3_6 ≤ 999) := hp5
  show T (b_X12_heard_55 o x3_6) _
  unfold b_X12_heard_55
  refine T_some ?_
  show (-9 ≤ x3_6 ∧ x3_6 ≤ 999)
  exact (by omega)
set_option maxHeartbeats 4000000 in
theorem t_X12_knew (o : OO) (x1 : Int) (x2 : Int) (x3 : Int) (hB_o : BoxM o) (k0 : inR x1) (k1 : inR x2) (k2 : inR x3) : T (s_X12_knew o x1 x2 x3) (fun v => (0 ≤ v ∧ v ≤ 1)) := by
  unfold s_X12_knew
  refine T_qB (t_X12_heard o x1 x2 hB_o (by omega) (by omega)) (fun r1 hc_r1 hp1 => ?_)
  have hp1 : (-9 ≤ r1 ∧ r1 ≤ 999) := hp1
  refine T_qLt ⟨by omega, by omega⟩ ⟨by decide, by decide⟩ (fun h2 => ?_) (fun h2 => ?_)
  ·
    unfold b_X12_knew_23
    unfold b_X12_knew_24
    refine T_qZ (Or.inl rfl) ?_
    refine T_some ?_
    show (0 ≤ 0 ∧ 0 ≤ 1)
    exact (by omega)
  ·
    refine T_qLt ⟨by omega, by omega⟩ ⟨by omega, by omega⟩ (fun h3 => ?_) (fun h3 => ?_)
    ·
      unfold b_X12_knew_23
      unfold b_X12_knew_24
      refine T_qZ (Or.inl rfl) ?_
      refine T_some ?_
      show (0 ≤ 0 ∧ 0 ≤ 1)
      exact (by omega)
    ·
      unfold b_X12_knew_24
      refine T_qZ (Or.inr rfl) ?_
      refine T_some ?_
      show (0 ≤ 1 ∧ 1 ≤ 1)
      exact (by omega)
set_option maxHeartbeats 4000000 in
theorem tl_X12_early_95 (o : OO) (x1 : Int) (x3 : Int) (x4 : Int) (x5 : Int) (i_x7 : Int) (i_x8 : Int) (hB_o : BoxM o) (k0 : inR x1) (k1 : 0 ≤ x3 ∧ x3 ≤ x5) (k2 : 0 ≤ x4 ∧ x4 ≤ x5) (k3 : 0 ≤ x5 ∧ x5 ≤ o.1 0 48) (k4 : 0 ≤ x1 ∧ x1 ≤ 23) (k5 : x5 < o.1 0 48) (k6 : 0 ≤ x1 ∧ x1 ≤ 23) (v0 : 0 ≤ i_x7 ∧ i_x7 ≤ 1) (v1 : 0 ≤ i_x8 ∧ i_x8 ≤ o.1 0 27) : T (loopW (fun s => l_X12_early_95 o x1 x3 x4 x5 s.1 s.2) (i_x7, i_x8)) (fun r => (0 ≤ r ∧ r ≤ 1)) := by
  refine T_loop (fun s => (0 ≤ s.1 ∧ s.1 ≤ 1) ∧ (0 ≤ s.2 ∧ s.2 ≤ o.1 0 27)) (fun s => (o.1 0 27 - s.2).toNat) ⟨v0, v1⟩ (fun s hs => ?_)
  obtain ⟨x7, x8⟩ := s
  have hs : (0 ≤ x7 ∧ x7 ≤ 1) ∧ (0 ≤ x8 ∧ x8 ≤ o.1 0 27) := hs
  obtain ⟨w0, w1⟩ := hs
  have g0_27_o := bM_0_27 hB_o
  have g0_48_o := bM_0_48 hB_o
  have g0_32_o := bM_0_32 hB_o
  show T (l_X12_early_95 o x1 x3 x4 x5 x7 x8) _
  unfold l_X12_early_95
  refine T_qLt ⟨by omega, by omega⟩ ⟨by omega, by omega⟩ (fun h1 => ?_) (fun h1 => ?_)
  ·
    refine T_qEq ⟨by omega, by omega⟩ ⟨by decide, by decide⟩ (fun h2 => ?_) (fun h2 => ?_)
    ·
      refine T_qIn ⟨by omega, by omega⟩ ?_
      refine T_qNm (fun n10 e_n10 => ?_)
      have b_n10 : 0 ≤ n10 ∧ n10 ≤ 39 := by rw [e_n10]; exact bM_41 hB_o _
      refine T_qEq ⟨by omega, by omega⟩ ⟨by omega, by omega⟩ (fun h3 => ?_) (fun h3 => ?_)
      ·
        unfold b_X12_early_164
        unfold b_X12_early_165
        refine T_some ?_
        show ((0 ≤ 0 ∧ 0 ≤ 1) ∧ (0 ≤ (x8 + 1) ∧ (x8 + 1) ≤ o.1 0 27)) ∧ (o.1 0 27 - (x8 + 1)).toNat < (o.1 0 27 - x8).toNat
        exact ⟨⟨(by omega), (by omega)⟩, by omega⟩
      ·
        refine T_qIn ⟨by omega, by omega⟩ ?_
        refine T_qNm (fun n12 e_n12 => ?_)
        have b_n12 : 0 ≤ n12 ∧ n12 ≤ 9 := by rw [e_n12]; exact bM_24 hB_o _
        refine T_qIn ⟨by omega, by omega⟩ ?_
        refine T_qNm (fun n14 e_n14 => ?_)
        have b_n14 : 0 ≤ n14 ∧ n14 ≤ 39 := by rw [e_n14]; exact bM_41 hB_o _
        refine T_qIn ⟨by omega, by omega⟩ ?_
        refine T_qNm (fun n16 e_n16 => ?_)
        have b_n16 : 0 ≤ n16 ∧ n16 ≤ 9 := by rw [e_n16]; exact bM_24 hB_o _
        refine T_qEq ⟨by omega, by omega⟩ ⟨by omega, by omega⟩ (fun h4 => ?_) (fun h4 => ?_)
        ·
          refine T_qIn ⟨by omega, by omega⟩ ?_
          refine T_qNm (fun n18 e_n18 => ?_)
          have b_n18 : 0 ≤ n18 ∧ n18 ≤ 999 := by rw [e_n18]; exact bM_42 hB_o _
          refine T_qB (t_X12_knew o x8 x1 n18 hB_o (by omega) (by omega) (by omega)) (fun r19 hc_r19 hp5 => ?_)
          have hp5 : (0 ≤ r19 ∧ r19 ≤ 1) := hp5
          refine T_qEq ⟨by omega, by omega⟩ ⟨by decide, by decide⟩ (fun h6 => ?_) (fun h6 => ?_)
          ·
            unfold b_X12_early_164
            unfold b_X12_early_165
            refine T_some ?_
            show ((0 ≤ 0 ∧ 0 ≤ 1) ∧ (0 ≤ (x8 + 1) ∧ (x8 + 1) ≤ o.1 0 27)) ∧ (o.1 0 27 - (x8 + 1)).toNat < (o.1 0 27 - x8).toNat
            exact ⟨⟨(by omega), (by omega)⟩, by omega⟩
          ·
            unfold b_X12_early_160
            unfold b_X12_early_165
            refine T_some ?_
            show ((0 ≤ 1 ∧ 1 ≤ 1) ∧ (0 ≤ (x8 + 1) ∧ (x8 + 1) ≤ o.1 0 27)) ∧ (o.1 0 27 - (x8 + 1)).toNat < (o.1 0 27 - x8).toNat
            exact ⟨⟨(by omega), (by omega)⟩, by omega⟩
        ·
          unfold b_X12_early_164
          unfold b_X12_early_165
          refine T_some ?_
          show ((0 ≤ 0 ∧ 0 ≤ 1) ∧ (0 ≤ (x8 + 1) ∧ (x8 + 1) ≤ o.1 0 27)) ∧ (o.1 0 27 - (x8 + 1)).toNat < (o.1 0 27 - x8).toNat
          exact ⟨⟨(by omega), (by omega)⟩, by omega⟩
    ·
      unfold b_X12_early_160
      unfold b_X12_early_165
      refine T_some ?_
      show ((0 ≤ 1 ∧ 1 ≤ 1) ∧ (0 ≤ (x8 + 1) ∧ (x8 + 1) ≤ o.1 0 27)) ∧ (o.1 0 27 - (x8 + 1)).toNat < (o.1 0 27 - x8).toNat
      exact ⟨⟨(by omega), (by omega)⟩, by omega⟩
  ·
    refine T_some ?_
    show (0 ≤ x7 ∧ x7 ≤ 1)
    exact (by omega)
set_option maxHeartbeats 4000000 in
theorem tl_X12_early_20 (o : OO) (x1 : Int) (i_x3 : Int) (i_x4 : Int) (i_x5 : Int) (hB_o : BoxM o) (k0 : inR x1) (k1 : 0 ≤ x1 ∧ x1 ≤ 23) (v0 : 0 ≤ i_x3 ∧ i_x3 ≤ i_x5) (v1 : 0 ≤ i_x4 ∧ i_x4 ≤ i_x5) (v2 : 0 ≤ i_x5 ∧ i_x5 ≤ o.1 0 48) : T (loopW (fun s => l_X12_early_20 o x1 s.1 s.2.1 s.2.2) (i_x3, i_x4, i_x5)) (fun r => (0 ≤ r.1 ∧ r.1 ≤ o.1 0 48) ∧ (0 ≤ r.2 ∧ r.2 ≤ o.1 0 48)) := by
  refine T_loop (fun s => (0 ≤ s.1 ∧ s.1 ≤ s.2.2) ∧ (0 ≤ s.2.1 ∧ s.2.1 ≤ s.2.2) ∧ (0 ≤ s.2.2 ∧ s.2.2 ≤ o.1 0 48)) (fun s => (o.1 0 48 - s.2.2).toNat) ⟨v0, v1, v2⟩ (fun s hs => ?_)
  obtain ⟨x3, x4, x5⟩ := s
  have hs : (0 ≤ x3 ∧ x3 ≤ x5) ∧ (0 ≤ x4 ∧ x4 ≤ x5) ∧ (0 ≤ x5 ∧ x5 ≤ o.1 0 48) := hs
  obtain ⟨w0, w1, w2⟩ := hs
  have g0_27_o := bM_0_27 hB_o
  have g0_48_o := bM_0_48 hB_o
  have g0_32_o := bM_0_32 hB_o
  show T (l_X12_early_20 o x1 x3 x4 x5) _
  unfold l_X12_early_20
  refine T_qLt ⟨by omega, by omega⟩ ⟨by omega, by omega⟩ (fun h7 => ?_) (fun h7 => ?_)
  ·
    refine T_qIn ⟨by omega, by omega⟩ ?_
    refine T_qNm (fun n30 e_n30 => ?_)
    have b_n30 : -9 ≤ n30 ∧ n30 ≤ 999 := by rw [e_n30]; exact bM_29 hB_o _
    refine T_qLt ⟨by omega, by omega⟩ ⟨by decide, by decide⟩ (fun h8 => ?_) (fun h8 => ?_)
    ·
      unfold b_X12_early_54
      unfold b_X12_early_59
      refine T_qEq ⟨by decide, by decide⟩ ⟨by decide, by decide⟩ (fun h9 => ?_) (fun h9 => ?_)
      ·
        unfold b_X12_early_227
        refine T_some ?_
        show ((0 ≤ x3 ∧ x3 ≤ (x5 + 1)) ∧ (0 ≤ x4 ∧ x4 ≤ (x5 + 1)) ∧ (0 ≤ (x5 + 1) ∧ (x5 + 1) ≤ o.1 0 48)) ∧ (o.1 0 48 - (x5 + 1)).toNat < (o.1 0 48 - x5).toNat
        exact ⟨⟨(by omega), (by omega), (by omega)⟩, by omega⟩
      ·
        refine T_qB (t_X12_cellsOf o x1 hB_o (by omega)) (fun p21 hc_p21 hp10 => ?_)
        refine T_qIn ⟨by omega, by omega⟩ ?_
        refine T_qNm (fun n24 e_n24 => ?_)
        have b_n24 : 0 ≤ n24 ∧ n24 ≤ 31 := by rw [e_n24]; exact bM_40 hB_o _
        refine T_qIn ⟨by omega, by omega⟩ ?_
        refine T_qNm (fun n26 e_n26 => ?_)
        have b_n26 : 0 ≤ n26 ∧ n26 ≤ 63 := by rw [e_n26]; exact bM_13 hB_o _
        refine T_qB (t_X12_has p21 n26) (fun r27 hc_r27 hp11 => ?_)
        have hp11 : (0 ≤ r27 ∧ r27 ≤ 1) := hp11
        refine T_qEq ⟨by omega, by omega⟩ ⟨by decide, by decide⟩ (fun h12 => ?_) (fun h12 => ?_)
        ·
          unfold b_X12_early_227
          refine T_some ?_
          show ((0 ≤ x3 ∧ x3 ≤ (x5 + 1)) ∧ (0 ≤ x4 ∧ x4 ≤ (x5 + 1)) ∧ (0 ≤ (x5 + 1) ∧ (x5 + 1) ≤ o.1 0 48)) ∧ (o.1 0 48 - (x5 + 1)).toNat < (o.1 0 48 - x5).toNat
          exact ⟨⟨(by omega), (by omega), (by omega)⟩, by omega⟩
        ·
          unfold e_X12_early_95
          refine T_qB (tl_X12_early_95 o x1 x3 x4 x5 0 0 hB_o (by omega) (by omega) (by omega) (by omega) (by omega) (by omega) (by omega) (by omega) (by omega)) (fun r13 hc_r13 hp14 => ?_)
          obtain ⟨x7_15, q_x7_15⟩ : ∃ q, q = r13 := ⟨_, rfl⟩
          subst q_x7_15
          have hp14 : (0 ≤ x7_15 ∧ x7_15 ≤ 1) := hp14
          show T (b_X12_early_173 o x1 x3 x4 x5 x7_15) _
          unfold b_X12_early_173
          refine T_qIn ⟨by omega, by omega⟩ ?_
          refine T_qNm (fun n4 e_n4 => ?_)
          have b_n4 : 0 ≤ n4 ∧ n4 ≤ 39 := by rw [e_n4]; exact bM_41 hB_o _
          refine T_qIn ⟨by omega, by omega⟩ ?_
          refine T_qNm (fun n6 e_n6 => ?_)
          have b_n6 : 0 ≤ n6 ∧ n6 ≤ 999 := by rw [e_n6]; exact bM_42 hB_o _
          refine T_qB (t_X12_knew o n4 x1 n6 hB_o (by omega) (by omega) (by omega)) (fun r7 hc_r7 hp16 => ?_)
          have hp16 : (0 ≤ r7 ∧ r7 ≤ 1) := hp16
          refine T_qEq ⟨by omega, by omega⟩ ⟨by decide, by decide⟩ (fun h17 => ?_) (fun h17 => ?_)
          ·
            unfold b_X12_early_205
            refine T_qNm (fun n2 e_n2 => ?_)
            refine T_qEq ⟨by omega, by omega⟩ ⟨by decide, by decide⟩ (fun h18 => ?_) (fun h18 => ?_)
            ·
              refine T_qEq ⟨by omega, by omega⟩ ⟨by decide, by decide⟩ (fun h19 => ?_) (fun h19 => ?_)
              ·
                unfold b_X12_early_223
                unfold b_X12_early_224
                refine T_qNm (fun n1 e_n1 => ?_)
                unfold b_X12_early_227
                refine T_some ?_
                show ((0 ≤ n2 ∧ n2 ≤ (x5 + 1)) ∧ (0 ≤ n1 ∧ n1 ≤ (x5 + 1)) ∧ (0 ≤ (x5 + 1) ∧ (x5 + 1) ≤ o.1 0 48)) ∧ (o.1 0 48 - (x5 + 1)).toNat < (o.1 0 48 - x5).toNat
                exact ⟨⟨(by omega), (by omega), (by omega)⟩, by omega⟩
              ·
                unfold b_X12_early_224
                refine T_qNm (fun n1 e_n1 => ?_)
                unfold b_X12_early_227
                refine T_some ?_
                show ((0 ≤ n2 ∧ n2 ≤ (x5 + 1)) ∧ (0 ≤ n1 ∧ n1 ≤ (x5 + 1)) ∧ (0 ≤ (x5 + 1) ∧ (x5 + 1) ≤ o.1 0 48)) ∧ (o.1 0 48 - (x5 + 1)).toNat < (o.1 0 48 - x5).toNat
                exact ⟨⟨(by omega), (by omega), (by omega)⟩, by omega⟩
            ·
              unfold b_X12_early_223
              unfold b_X12_early_224
              refine T_qNm (fun n1 e_n1 => ?_)
              unfold b_X12_early_227
              refine T_some ?_
              show ((0 ≤ n2 ∧ n2 ≤ (x5 + 1)) ∧ (0 ≤ n1 ∧ n1 ≤ (x5 + 1)) ∧ (0 ≤ (x5 + 1) ∧ (x5 + 1) ≤ o.1 0 48)) ∧ (o.1 0 48 - (x5 + 1)).toNat < (o.1 0 48 - x5).toNat
              exact ⟨⟨(by omega), (by omega), (by omega)⟩, by omega⟩
          ·
            unfold b_X12_early_205
            refine T_qNm (fun n2 e_n2 => ?_)
            refine T_qEq ⟨by omega, by omega⟩ ⟨by decide, by decide⟩ (fun h20 => ?_) (fun h20 => ?_)
            ·
              refine T_qEq ⟨by omega, by omega⟩ ⟨by decide, by decide⟩ (fun h21 => ?_) (fun h21 => ?_)
              ·
                unfold b_X12_early_223
                unfold b_X12_early_224
                refine T_qNm (fun n1 e_n1 => ?_)
                unfold b_X12_early_227
                refine T_some ?_
                show ((0 ≤ n2 ∧ n2 ≤ (x5 + 1)) ∧ (0 ≤ n1 ∧ n1 ≤ (x5 + 1)) ∧ (0 ≤ (x5 + 1) ∧ (x5 + 1) ≤ o.1 0 48)) ∧ (o.1 0 48 - (x5 + 1)).toNat < (o.1 0 48 - x5).toNat
                exact ⟨⟨(by omega), (by omega), (by omega)⟩, by omega⟩
              ·
                unfold b_X12_early_224
                refine T_qNm (fun n1 e_n1 => ?_)
                unfold b_X12_early_227
                refine T_some ?_
                show ((0 ≤ n2 ∧ n2 ≤ (x5 + 1)) ∧ (0 ≤ n1 ∧ n1 ≤ (x5 + 1)) ∧ (0 ≤ (x5 + 1) ∧ (x5 + 1) ≤ o.1 0 48)) ∧ (o.1 0 48 - (x5 + 1)).toNat < (o.1 0 48 - x5).toNat
                exact ⟨⟨(by omega), (by omega), (by omega)⟩, by omega⟩
            ·
              unfold b_X12_early_223
              unfold b_X12_early_224
              refine T_qNm (fun n1 e_n1 => ?_)
              unfold b_X12_early_227
              refine T_some ?_
              show ((0 ≤ n2 ∧ n2 ≤ (x5 + 1)) ∧ (0 ≤ n1 ∧ n1 ≤ (x5 + 1)) ∧ (0 ≤ (x5 + 1) ∧ (x5 + 1) ≤ o.1 0 48)) ∧ (o.1 0 48 - (x5 + 1)).toNat < (o.1 0 48 - x5).toNat
              exact ⟨⟨(by omega), (by omega), (by omega)⟩, by omega⟩
    ·
      refine T_qIn ⟨by omega, by omega⟩ ?_
      refine T_qNm (fun n32 e_n32 => ?_)
      have b_n32 : 0 ≤ n32 ∧ n32 ≤ 999 := by rw [e_n32]; exact bM_42 hB_o _
      refine T_qIn ⟨by omega, by omega⟩ ?_
      refine T_qNm (fun n34 e_n34 => ?_)
      have b_n34 : -9 ≤ n34 ∧ n34 ≤ 999 := by rw [e_n34]; exact bM_29 hB_o _
      refine T_qLt ⟨by omega, by omega⟩ ⟨by omega, by omega⟩ (fun h22 => ?_) (fun h22 => ?_)
      ·
        unfold b_X12_early_54
        unfold b_X12_early_59
        refine T_qEq ⟨by decide, by decide⟩ ⟨by decide, by decide⟩ (fun h23 => ?_) (fun h23 => ?_)
        ·
          unfold b_X12_early_227
          refine T_some ?_
          show ((0 ≤ x3 ∧ x3 ≤ (x5 + 1)) ∧ (0 ≤ x4 ∧ x4 ≤ (x5 + 1)) ∧ (0 ≤ (x5 + 1) ∧ (x5 + 1) ≤ o.1 0 48)) ∧ (o.1 0 48 - (x5 + 1)).toNat < (o.1 0 48 - x5).toNat
          exact ⟨⟨(by omega), (by omega), (by omega)⟩, by omega⟩
        ·
          refine T_qB (t_X12_cellsOf o x1 hB_o (by omega)) (fun p21 hc_p21 hp24 => ?_)
          refine T_qIn ⟨by omega, by omega⟩ ?_
          refine T_qNm (fun n24 e_n24 => ?_)
          have b_n24 : 0 ≤ n24 ∧ n24 ≤ 31 := by rw [e_n24]; exact bM_40 hB_o _
          refine T_qIn ⟨by omega, by omega⟩ ?_
          refine T_qNm (fun n26 e_n26 => ?_)
          have b_n26 : 0 ≤ n26 ∧ n26 ≤ 63 := by rw [e_n26]; exact bM_13 hB_o _
          refine T_qB (t_X12_has p21 n26) (fun r27 hc_r27 hp25 => ?_)
          have hp25 : (0 ≤ r27 ∧ r27 ≤ 1) := hp25
          refine T_qEq ⟨by omega, by omega⟩ ⟨by decide, by decide⟩ (fun h26 => ?_) (fun h26 => ?_)
          ·
            unfold b_X12_early_227
            refine T_some ?_
            show ((0 ≤ x3 ∧ x3 ≤ (x5 + 1)) ∧ (0 ≤ x4 ∧ x4 ≤ (x5 + 1)) ∧ (0 ≤ (x5 + 1) ∧ (x5 + 1) ≤ o.1 0 48)) ∧ (o.1 0 48 - (x5 + 1)).toNat < (o.1 0 48 - x5).toNat
            exact ⟨⟨(by omega), (by omega), (by omega)⟩, by omega⟩
          ·
            unfold e_X12_early_95
            refine T_qB (tl_X12_early_95 o x1 x3 x4 x5 0 0 hB_o (by omega) (by omega) (by omega) (by omega) (by omega) (by omega) (by omega) (by omega) (by omega)) (fun r27 hc_r27 hp28 => ?_)
            obtain ⟨x7_29, q_x7_29⟩ : ∃ q, q = r27 := ⟨_, rfl⟩
            subst q_x7_29
            have hp28 : (0 ≤ x7_29 ∧ x7_29 ≤ 1) := hp28
            show T (b_X12_early_173 o x1 x3 x4 x5 x7_29) _
            unfold b_X12_early_173
            refine T_qIn ⟨by omega, by omega⟩ ?_
            refine T_qNm (fun n4 e_n4 => ?_)
            have b_n4 : 0 ≤ n4 ∧ n4 ≤ 39 := by rw [e_n4]; exact bM_41 hB_o _
            refine T_qIn ⟨by omega, by omega⟩ ?_
            refine T_qNm (fun n6 e_n6 => ?_)
            have b_n6 : 0 ≤ n6 ∧ n6 ≤ 999 := by rw [e_n6]; exact bM_42 hB_o _
            refine T_qB (t_X12_knew o n4 x1 n6 hB_o (by omega) (by omega) (by omega)) (fun r7 hc_r7 hp30 => ?_)
            have hp30 : (0 ≤ r7 ∧ r7 ≤ 1) := hp30
            refine T_qEq ⟨by omega, by omega⟩ ⟨by decide, by decide⟩ (fun h31 => ?_) (fun h31 => ?_)
            ·
              unfold b_X12_early_205
              refine T_qNm (fun n2 e_n2 => ?_)
              refine T_qEq ⟨by omega, by omega⟩ ⟨by decide, by decide⟩ (fun h32 => ?_) (fun h32 => ?_)
              ·
                refine T_qEq ⟨by omega, by omega⟩ ⟨by decide, by decide⟩ (fun h33 => ?_) (fun h33 => ?_)
                ·
                  unfold b_X12_early_223
                  unfold b_X12_early_224
                  refine T_qNm (fun n1 e_n1 => ?_)
                  unfold b_X12_early_227
                  refine T_some ?_
                  show ((0 ≤ n2 ∧ n2 ≤ (x5 + 1)) ∧ (0 ≤ n1 ∧ n1 ≤ (x5 + 1)) ∧ (0 ≤ (x5 + 1) ∧ (x5 + 1) ≤ o.1 0 48)) ∧ (o.1 0 48 - (x5 + 1)).toNat < (o.1 0 48 - x5).toNat
                  exact ⟨⟨(by omega), (by omega), (by omega)⟩, by omega⟩
                ·
                  unfold b_X12_early_224
                  refine T_qNm (fun n1 e_n1 => ?_)
                  unfold b_X12_early_227
                  refine T_some ?_
                  show ((0 ≤ n2 ∧ n2 ≤ (x5 + 1)) ∧ (0 ≤ n1 ∧ n1 ≤ (x5 + 1)) ∧ (0 ≤ (x5 + 1) ∧ (x5 + 1) ≤ o.1 0 48)) ∧ (o.1 0 48 - (x5 + 1)).toNat < (o.1 0 48 - x5).toNat
                  exact ⟨⟨(by omega), (by omega), (by omega)⟩, by omega⟩
              ·
                unfold b_X12_early_223
                unfold b_X12_early_224
                refine T_qNm (fun n1 e_n1 => ?_)
                unfold b_X12_early_227
                refine T_some ?_
                show ((0 ≤ n2 ∧ n2 ≤ (x5 + 1)) ∧ (0 ≤ n1 ∧ n1 ≤ (x5 + 1)) ∧ (0 ≤ (x5 + 1) ∧ (x5 + 1) ≤ o.1 0 48)) ∧ (o.1 0 48 - (x5 + 1)).toNat < (o.1 0 48 - x5).toNat
                exact ⟨⟨(by omega), (by omega), (by omega)⟩, by omega⟩
            ·
              unfold b_X12_early_205
              refine T_qNm (fun n2 e_n2 => ?_)
              refine T_qEq ⟨by omega, by omega⟩ ⟨by decide, by decide⟩ (fun h34 => ?_) (fun h34 => ?_)
              ·
                refine T_qEq ⟨by omega, by omega⟩ ⟨by decide, by decide⟩ (fun h35 => ?_) (fun h35 => ?_)
                ·
                  unfold b_X12_early_223
                  unfold b_X12_early_224
                  refine T_qNm (fun n1 e_n1 => ?_)
                  unfold b_X12_early_227
                  refine T_some ?_
                  show ((0 ≤ n2 ∧ n2 ≤ (x5 + 1)) ∧ (0 ≤ n1 ∧ n1 ≤ (x5 + 1)) ∧ (0 ≤ (x5 + 1) ∧ (x5 + 1) ≤ o.1 0 48)) ∧ (o.1 0 48 - (x5 + 1)).toNat < (o.1 0 48 - x5).toNat
                  exact ⟨⟨(by omega), (by omega), (by omega)⟩, by omega⟩
                ·
                  unfold b_X12_early_224
                  refine T_qNm (fun n1 e_n1 => ?_)
                  unfold b_X12_early_227
                  refine T_some ?_
                  show ((0 ≤ n2 ∧ n2 ≤ (x5 + 1)) ∧ (0 ≤ n1 ∧ n1 ≤ (x5 + 1)) ∧ (0 ≤ (x5 + 1) ∧ (x5 + 1) ≤ o.1 0 48)) ∧ (o.1 0 48 - (x5 + 1)).toNat < (o.1 0 48 - x5).toNat
                  exact ⟨⟨(by omega), (by omega), (by omega)⟩, by omega⟩
              ·
                unfold b_X12_early_223
                unfold b_X12_early_224
                refine T_qNm (fun n1 e_n1 => ?_)
                unfold b_X12_early_227
                refine T_some ?_
                show ((0 ≤ n2 ∧ n2 ≤ (x5 + 1)) ∧ (0 ≤ n1 ∧ n1 ≤ (x5 + 1)) ∧ (0 ≤ (x5 + 1) ∧ (x5 + 1) ≤ o.1 0 48)) ∧ (o.1 0 48 - (x5 + 1)).toNat < (o.1 0 48 - x5).toNat
                exact ⟨⟨(by omega), (by omega), (by omega)⟩, by omega⟩
      ·
        unfold b_X12_early_59
        refine T_qEq ⟨by decide, by decide⟩ ⟨by decide, by decide⟩ (fun h36 => ?_) (fun h36 => ?_)
        ·
          unfold b_X12_early_227
          refine T_some ?_
          show ((0 ≤ x3 ∧ x3 ≤ (x5 + 1)) ∧ (0 ≤ x4 ∧ x4 ≤ (x5 + 1)) ∧ (0 ≤ (x5 + 1) ∧ (x5 + 1) ≤ o.1 0 48)) ∧ (o.1 0 48 - (x5 + 1)).toNat < (o.1 0 48 - x5).toNat
          exact ⟨⟨(by omega), (by omega), (by omega)⟩, by omega⟩
        ·
          refine T_qB (t_X12_cellsOf o x1 hB_o (by omega)) (fun p21 hc_p21 hp37 => ?_)
          refine T_qIn ⟨by omega, by omega⟩ ?_
          refine T_qNm (fun n24 e_n24 => ?_)
          have b_n24 : 0 ≤ n24 ∧ n24 ≤ 31 := by rw [e_n24]; exact bM_40 hB_o _
          refine T_qIn ⟨by omega, by omega⟩ ?_
          refine T_qNm (fun n26 e_n26 => ?_)
          have b_n26 : 0 ≤ n26 ∧ n26 ≤ 63 := by rw [e_n26]; exact bM_13 hB_o _
          refine T_qB (t_X12_has p21 n26) (fun r27 hc_r27 hp38 => ?_)
          have hp38 : (0 ≤ r27 ∧ r27 ≤ 1) := hp38
          refine T_qEq ⟨by omega, by omega⟩ ⟨by decide, by decide⟩ (fun h39 => ?_) (fun h39 => ?_)
          ·
            unfold b_X12_early_227
            refine T_some ?_
            show ((0 ≤ x3 ∧ x3 ≤ (x5 + 1)) ∧ (0 ≤ x4 ∧ x4 ≤ (x5 + 1)) ∧ (0 ≤ (x5 + 1) ∧ (x5 + 1) ≤ o.1 0 48)) ∧ (o.1 0 48 - (x5 + 1)).toNat < (o.1 0 48 - x5).toNat
            exact ⟨⟨(by omega), (by omega), (by omega)⟩, by omega⟩
          ·
            unfold e_X12_early_95
            refine T_qB (tl_X12_early_95 o x1 x3 x4 x5 0 0 hB_o (by omega) (by omega) (by omega) (by omega) (by omega) (by omega) (by omega) (by omega) (by omega)) (fun r40 hc_r40 hp41 => ?_)
            obtain ⟨x7_42, q_x7_42⟩ : ∃ q, q = r40 := ⟨_, rfl⟩
            subst q_x7_42
            have hp41 : (0 ≤ x7_42 ∧ x7_42 ≤ 1) := hp41
            show T (b_X12_early_173 o x1 x3 x4 x5 x7_42) _
            unfold b_X12_early_173
            refine T_qIn ⟨by omega, by omega⟩ ?_
            refine T_qNm (fun n4 e_n4 => ?_)
            have b_n4 : 0 ≤ n4 ∧ n4 ≤ 39 := by rw [e_n4]; exact bM_41 hB_o _
            refine T_qIn ⟨by omega, by omega⟩ ?_
            refine T_qNm (fun n6 e_n6 => ?_)
            have b_n6 : 0 ≤ n6 ∧ n6 ≤ 999 := by rw [e_n6]; exact bM_42 hB_o _
            refine T_qB (t_X12_knew o n4 x1 n6 hB_o (by omega) (by omega) (by omega)) (fun r7 hc_r7 hp43 => ?_)
            have hp43 : (0 ≤ r7 ∧ r7 ≤ 1) := hp43
            refine T_qEq ⟨by omega, by omega⟩ ⟨by decide, by decide⟩ (fun h44 => ?_) (fun h44 => ?_)
            ·
              unfold b_X12_early_205
              refine T_qNm (fun n2 e_n2 => ?_)
              refine T_qEq ⟨by omega, by omega⟩ ⟨by decide, by decide⟩ (fun h45 => ?_) (fun h45 => ?_)
              ·
                refine T_qEq ⟨by omega, by omega⟩ ⟨by decide, by decide⟩ (fun h46 => ?_) (fun h46 => ?_)
                ·
                  unfold b_X12_early_223
                  unfold b_X12_early_224
                  refine T_qNm (fun n1 e_n1 => ?_)
                  unfold b_X12_early_227
                  refine T_some ?_
                  show ((0 ≤ n2 ∧ n2 ≤ (x5 + 1)) ∧ (0 ≤ n1 ∧ n1 ≤ (x5 + 1)) ∧ (0 ≤ (x5 + 1) ∧ (x5 + 1) ≤ o.1 0 48)) ∧ (o.1 0 48 - (x5 + 1)).toNat < (o.1 0 48 - x5).toNat
                  exact ⟨⟨(by omega), (by omega), (by omega)⟩, by omega⟩
                ·
                  unfold b_X12_early_224
                  refine T_qNm (fun n1 e_n1 => ?_)
                  unfold b_X12_early_227
                  refine T_some ?_
                  show ((0 ≤ n2 ∧ n2 ≤ (x5 + 1)) ∧ (0 ≤ n1 ∧ n1 ≤ (x5 + 1)) ∧ (0 ≤ (x5 + 1) ∧ (x5 + 1) ≤ o.1 0 48)) ∧ (o.1 0 48 - (x5 + 1)).toNat < (o.1 0 48 - x5).toNat
                  exact ⟨⟨(by omega), (by omega), (by omega)⟩, by omega⟩
              ·
                unfold b_X12_early_223
                unfold b_X12_early_224
                refine T_qNm (fun n1 e_n1 => ?_)
                unfold b_X12_early_227
                refine T_some ?_
                show ((0 ≤ n2 ∧ n2 ≤ (x5 + 1)) ∧ (0 ≤ n1 ∧ n1 ≤ (x5 + 1)) ∧ (0 ≤ (x5 + 1) ∧ (x5 + 1) ≤ o.1 0 48)) ∧ (o.1 0 48 - (x5 + 1)).toNat < (o.1 0 48 - x5).toNat
                exact ⟨⟨(by omega), (by omega), (by omega)⟩, by omega⟩
            ·
              unfold b_X12_early_205
              refine T_qNm (fun n2 e_n2 => ?_)
              refine T_qEq ⟨by omega, by omega⟩ ⟨by decide, by decide⟩ (fun h47 => ?_) (fun h47 => ?_)
              ·
                refine T_qEq ⟨by omega, by omega⟩ ⟨by decide, by decide⟩ (fun h48 => ?_) (fun h48 => ?_)
                ·
                  unfold b_X12_early_223
                  unfold b_X12_early_224
                  refine T_qNm (fun n1 e_n1 => ?_)
                  unfold b_X12_early_227
                  refine T_some ?_
                  show ((0 ≤ n2 ∧ n2 ≤ (x5 + 1)) ∧ (0 ≤ n1 ∧ n1 ≤ (x5 + 1)) ∧ (0 ≤ (x5 + 1) ∧ (x5 + 1) ≤ o.1 0 48)) ∧ (o.1 0 48 - (x5 + 1)).toNat < (o.1 0 48 - x5).toNat
                  exact ⟨⟨(by omega), (by omega), (by omega)⟩, by omega⟩
                ·
                  unfold b_X12_early_224
                  refine T_qNm (fun n1 e_n1 => ?_)
                  unfold b_X12_early_227
                  refine T_some ?_
                  show ((0 ≤ n2 ∧ n2 ≤ (x5 + 1)) ∧ (0 ≤ n1 ∧ n1 ≤ (x5 + 1)) ∧ (0 ≤ (x5 + 1) ∧ (x5 + 1) ≤ o.1 0 48)) ∧ (o.1 0 48 - (x5 + 1)).toNat < (o.1 0 48 - x5).toNat
                  exact ⟨⟨(by omega), (by omega), (by omega)⟩, by omega⟩
              ·
                unfold b_X12_early_223
                unfold b_X12_early_224
                refine T_qNm (fun n1 e_n1 => ?_)
                unfold b_X12_early_227
                refine T_some ?_
                show ((0 ≤ n2 ∧ n2 ≤ (x5 + 1)) ∧ (0 ≤ n1 ∧ n1 ≤ (x5 + 1)) ∧ (0 ≤ (x5 + 1) ∧ (x5 + 1) ≤ o.1 0 48)) ∧ (o.1 0 48 - (x5 + 1)).toNat < (o.1 0 48 - x5).toNat
                exact ⟨⟨(by omega), (by omega), (by omega)⟩, by omega⟩
  ·
    refine T_some ?_
    show (0 ≤ x3 ∧ x3 ≤ o.1 0 48) ∧ (0 ≤ x4 ∧ x4 ≤ o.1 0 48)
    exact ⟨(by omega), (by omega)⟩
set_option maxHeartbeats 4000000 in
theorem t_X12_early (o : OO) (x1 : Int) (hB_o : BoxM o) (k0 : inR x1) : T (s_X12_early o x1) (fun v => BoxM v.2 ∧ (Fr [(0, 0), (1, 9999)] o v.2)) := by
  have fr_o : Fr [(0, 0), (1, 9999)] o o := Fr.rf
  have g0_27_o := bM_0_27 hB_o
  have g0_48_o := bM_0_48 hB_o
  have g0_32_o := bM_0_32 hB_o
  unfold s_X12_early
  refine T_qB2 (t_X12_askedLine o x1 hB_o (by omega)) (fun r35 o37 hc_r35 hp49 => ?_)
  have hp49 : BoxM o37 ∧ (Fr [(0, 0), (1, 9999)] o o37) ∧ (r35 = -1 ∨ r35 = -3 ∨ (r35 = 0 ∧ 0 ≤ x1 ∧ x1 < o.1 0 32)) := hp49
  obtain ⟨hB_o37, fc_o37, hp49⟩ := hp49
  have fr_o37 : Fr [(0, 0), (1, 9999)] o o37 := Fr.tr fr_o fc_o37 rfl
  have g0_27_o37 : o37.1 0 27 = o.1 0 27 := fc_o37.1 0 27 rfl
  have g0_48_o37 : o37.1 0 48 = o.1 0 48 := fc_o37.1 0 48 rfl
  have g0_32_o37 : o37.1 0 32 = o.1 0 32 := fc_o37.1 0 32 rfl
  refine T_qLt ⟨by omega, by omega⟩ ⟨by decide, by decide⟩ (fun h50 => ?_) (fun h50 => ?_)
  ·
    refine T_some ?_
    show BoxM o37 ∧ (Fr [(0, 0), (1, 9999)] o o37)
    exact ⟨hB_o37, fr_o37⟩
  ·
    unfold e_X12_early_20
    refine T_qB (tl_X12_early_20 o37 x1 0 0 0 hB_o37 (by omega) (by omega) (by omega) (by omega) (by omega)) (fun r51 hc_r51 hp52 => ?_)
    obtain ⟨x3_53, x4_54⟩ := r51
    have hp52 : (0 ≤ x3_53 ∧ x3_53 ≤ o37.1 0 48) ∧ (0 ≤ x4_54 ∧ x4_54 ≤ o37.1 0 48) := hp52
    show T (b_X12_early_233 o37 x3_53 x4_54) _
    unfold b_X12_early_233
    refine T_some ?_
    show BoxM o37 ∧ (Fr [(0, 0), (1, 9999)] o o37)
    exact ⟨hB_o37, fr_o37⟩
set_option maxHeartbeats 4000000 in
theorem t_X12_beside (x0 : Int) (x1 : Int) (k0 : 0 ≤ x0 ∧ x0 ≤ 63) (k1 : 0 ≤ x1 ∧ x1 ≤ 3) : T (s_X12_beside x0 x1) (fun v => (v = -9 ∨ (0 ≤ v ∧ v ≤ 63 ∧ (x1 = 0 ∧ v = x0 - 8 ∨ x1 = 1 ∧ v = x0 - 1 ∨ x1 = 2 ∧ v = x0 + 1 ∨ x1 = 3 ∧ v = x0 + 8)))) := by
  unfold s_X12_beside
  refine T_qEq ⟨by omega, by omega⟩ ⟨by decide, by decide⟩ (fun h1 => ?_) (fun h1 => ?_)
  ·
    refine T_qDv ⟨⟨by omega, by omega⟩, ⟨by decide, by decide⟩, by decide⟩ ?_
    have jd2 : jq x0 8 = x0 / 8 := jq_nn (by omega)
    refine T_qLt ⟨by decide, by decide⟩ ⟨by omega, by omega⟩ (fun h3 => ?_) (fun h3 => ?_)
    ·
      unfold b_X12_beside_44
      refine T_some ?_
      show ((x0 - 8) = -9 ∨ (0 ≤ (x0 - 8) ∧ (x0 - 8) ≤ 63 ∧ (x1 = 0 ∧ (x0 - 8) = x0 - 8 ∨ x1 = 1 ∧ (x0 - 8) = x0 - 1 ∨ x1 = 2 ∧ (x0 - 8) = x0 + 1 ∨ x1 = 3 ∧ (x0 - 8) = x0 + 8)))
      exact (by omega)
    ·
      unfold b_X12_beside_44
      refine T_some ?_
      show ((-9) = -9 ∨ (0 ≤ (-9) ∧ (-9) ≤ 63 ∧ (x1 = 0 ∧ (-9) = x0 - 8 ∨ x1 = 1 ∧ (-9) = x0 - 1 ∨ x1 = 2 ∧ (-9) = x0 + 1 ∨ x1 = 3 ∧ (-9) = x0 + 8)))
      exact (by omega)
  ·
    refine T_qEq ⟨by omega, by omega⟩ ⟨by decide, by decide⟩ (fun h4 => ?_) (fun h4 => ?_)
    ·
      refine T_qDv ⟨⟨by omega, by omega⟩, ⟨by decide, by decide⟩, by decide⟩ ?_
      have jd5 : jq x0 8 = x0 / 8 := jq_nn (by omega)
      refine T_qLt ⟨by decide, by decide⟩ ⟨by omega, by omega⟩ (fun h6 => ?_) (fun h6 => ?_)
      ·
        unfold b_X12_beside_60
        refine T_some ?_
        show ((x0 - 1) = -9 ∨ (0 ≤ (x0 - 1) ∧ (x0 - 1) ≤ 63 ∧ (x1 = 0 ∧ (x0 - 1) = x0 - 8 ∨ x1 = 1 ∧ (x0 - 1) = x0 - 1 ∨ x1 = 2 ∧ (x0 - 1) = x0 + 1 ∨ x1 = 3 ∧ (x0 - 1) = x0 + 8)))
        exact (by omega)
      ·
        unfold b_X12_beside_60
        refine T_some ?_
        show ((-9) = -9 ∨ (0 ≤ (-9) ∧ (-9) ≤ 63 ∧ (x1 = 0 ∧ (-9) = x0 - 8 ∨ x1 = 1 ∧ (-9) = x0 - 1 ∨ x1 = 2 ∧ (-9) = x0 + 1 ∨ x1 = 3 ∧ (-9) = x0 + 8)))
        exact (by omega)
    ·
      refine T_qEq ⟨by omega, by omega⟩ ⟨by decide, by decide⟩ (fun h7 => ?_) (fun h7 => ?_)
      ·
        refine T_qDv ⟨⟨by omega, by omega⟩, ⟨by decide, by decide⟩, by decide⟩ ?_
        have jd8 : jq x0 8 = x0 / 8 := jq_nn (by omega)
        refine T_qLt ⟨by omega, by omega⟩ ⟨by decide, by decide⟩ (fun h9 => ?_) (fun h9 => ?_)
        ·
          unfold b_X12_beside_78
          refine T_some ?_
          show ((x0 + 1) = -9 ∨ (0 ≤ (x0 + 1) ∧ (x0 + 1) ≤ 63 ∧ (x1 = 0 ∧ (x0 + 1) = x0 - 8 ∨ x1 = 1 ∧ (x0 + 1) = x0 - 1 ∨ x1 = 2 ∧ (x0 + 1) = x0 + 1 ∨ x1 = 3 ∧ (x0 + 1) = x0 + 8)))
          exact (by omega)
        ·
          unfold b_X12_beside_78
          refine T_some ?_
          show ((-9) = -9 ∨ (0 ≤ (-9) ∧ (-9) ≤ 63 ∧ (x1 = 0 ∧ (-9) = x0 - 8 ∨ x1 = 1 ∧ (-9) = x0 - 1 ∨ x1 = 2 ∧ (-9) = x0 + 1 ∨ x1 = 3 ∧ (-9) = x0 + 8)))
          exact (by omega)
      ·
        refine T_qDv ⟨⟨by omega, by omega⟩, ⟨by decide, by decide⟩, by decide⟩ ?_
        have jd10 : jq x0 8 = x0 / 8 := jq_nn (by omega)
        refine T_qLt ⟨by omega, by omega⟩ ⟨by decide, by decide⟩ (fun h11 => ?_) (fun h11 => ?_)
        ·
          unfold b_X12_beside_97
          refine T_some ?_
          show ((x0 + 8) = -9 ∨ (0 ≤ (x0 + 8) ∧ (x0 + 8) ≤ 63 ∧ (x1 = 0 ∧ (x0 + 8) = x0 - 8 ∨ x1 = 1 ∧ (x0 + 8) = x0 - 1 ∨ x1 = 2 ∧ (x0 + 8) = x0 + 1 ∨ x1 = 3 ∧ (x0 + 8) = x0 + 8)))
          exact (by omega)
        ·
          unfold b_X12_beside_97
          refine T_some ?_
          show ((-9) = -9 ∨ (0 ≤ (-9) ∧ (-9) ≤ 63 ∧ (x1 = 0 ∧ (-9) = x0 - 8 ∨ x1 = 1 ∧ (-9) = x0 - 1 ∨ x1 = 2 ∧ (-9) = x0 + 1 ∨ x1 = 3 ∧ (-9) = x0 + 8)))
          exact (by omega)
theorem t_X12_setSteps (o : OO) (x1 : Int) (z2 : Int64) (hB_o : BoxM o) (k0 : 0 ≤ x1 ∧ x1 ≤ 63) : T (s_X12_setSteps o x1 z2) (fun v => BoxM v ∧ (Fr [(52, 9999)] o v)) := by sorry
theorem t_X12_fall (o : OO) (x1 : Int) (x2 : Int) (hB_o : BoxM o) (k0 : inR x1) (k1 : inR x2) : T (s_X12_fall o x1 x2) (fun v => BoxM v.2 ∧ (Fr [(0, 0), (0, 3), (1, 9999), (52, 9999), (53, 9999)] o v.2)) := by sorry
set_option maxHeartbeats 4000000 in
theorem t_X12_isText (x0 : Int) (k0 : inR x0) : T (s_X12_isText x0) (fun v => ((v = 1 ∧ 0 ≤ x0 ∧ x0 ≤ 3) ∨ (v = 0 ∧ (x0 < 0 ∨ 3 < x0)))) := by
  unfold s_X12_isText
  refine T_qB (t_X12_in x0 0 3 (by omega) (by omega) (by omega)) (fun r1 hc_r1 hp1 => ?_)
  have hp1 : ((r1 = 1 ∧ 0 ≤ x0 ∧ x0 ≤ 3) ∨ (r1 = 0 ∧ (x0 < 0 ∨ 3 < x0))) := hp1
  refine T_qZ (by omega) ?_
  refine T_some ?_
  show ((r1 = 1 ∧ 0 ≤ x0 ∧ x0 ≤ 3) ∨ (r1 = 0 ∧ (x0 < 0 ∨ 3 < x0)))
  exact (by omega)
set_option maxHeartbeats 4000000 in
theorem t_X12_askedText (o : OO) (x1 : Int) (hB_o : BoxM o) (k0 : inR x1) : T (s_X12_askedText o x1) (fun v => BoxM v.2 ∧ (Fr [(0, 0), (1, 9999)] o v.2) ∧ (v.1 = -1 ∨ v.1 = -3 ∨ (v.1 = 0 ∧ 0 ≤ x1 ∧ x1 ≤ 3 ∧ 0 ≤ v.2.1 5 x1.toNat))) := by
  have fr_o : Fr [(0, 0), (1, 9999)] o o := Fr.rf
  unfold s_X12_askedText
  refine T_qB (t_X12_isText x1 (by omega)) (fun r1 hc_r1 hp1 => ?_)
  have hp1 : ((r1 = 1 ∧ 0 ≤ x1 ∧ x1 ≤ 3) ∨ (r1 = 0 ∧ (x1 < 0 ∨ 3 < x1))) := hp1
  refine T_qEq ⟨by omega, by omega⟩ ⟨by decide, by decide⟩ (fun h2 => ?_) (fun h2 => ?_)
  ·
    unfold b_X12_askedText_29
    refine T_some ?_
    show BoxM o ∧ (Fr [(0, 0), (1, 9999)] o o) ∧ ((-1) = -1 ∨ (-1) = -3 ∨ ((-1) = 0 ∧ 0 ≤ x1 ∧ x1 ≤ 3 ∧ 0 ≤ o.1 5 x1.toNat))
    exact ⟨hB_o, fr_o, (by omega)⟩
  ·
    refine T_qIn ⟨by omega, by omega⟩ ?_
    refine T_qNm (fun n4 e_n4 => ?_)
    have b_n4 : -9 ≤ n4 ∧ n4 ≤ 40 := by rw [e_n4]; exact bM_5 hB_o _
    refine T_qLt ⟨by omega, by omega⟩ ⟨by decide, by decide⟩ (fun h3 => ?_) (fun h3 => ?_)
    ·
      refine T_qB2 (t_X12_meets o 1 hB_o (by omega)) (fun r5 o7 hc_r5 hp4 => ?_)
      have hp4 : BoxM o7 ∧ (Fr [(0, 0), (1, 9999)] o o7) ∧ (r5 = -3) := hp4
      obtain ⟨hB_o7, fc_o7, hp4⟩ := hp4
      have fr_o7 : Fr [(0, 0), (1, 9999)] o o7 := Fr.tr fr_o fc_o7 rfl
      unfold b_X12_askedText_29
      refine T_some ?_
      show BoxM o7 ∧ (Fr [(0, 0), (1, 9999)] o o7) ∧ (r5 = -1 ∨ r5 = -3 ∨ (r5 = 0 ∧ 0 ≤ x1 ∧ x1 ≤ 3 ∧ 0 ≤ o7.1 5 x1.toNat))
      exact ⟨hB_o7, fr_o7, (by omega)⟩
    ·
      unfold b_X12_askedText_29
      refine T_some ?_
      show BoxM o ∧ (Fr [(0, 0), (1, 9999)] o o) ∧ (0 = -1 ∨ 0 = -3 ∨ (0 = 0 ∧ 0 ≤ x1 ∧ x1 ≤ 3 ∧ 0 ≤ o.1 5 x1.toNat))
      exact ⟨hB_o, fr_o, (by omega)⟩
set_option maxHeartbeats 4000000 in
theorem t_X12_letter (x0 : Int) (k0 : inR x0) : T (s_X12_letter x0) (fun v => (-9 ≤ v ∧ v ≤ 7)) := by
  unfold s_X12_letter
  refine T_qEq ⟨by omega, by omega⟩ ⟨by decide, by decide⟩ (fun h1 => ?_) (fun h1 => ?_)
  ·
    refine T_some ?_
    show (-9 ≤ 1 ∧ 1 ≤ 7)
    exact (by omega)
  ·
    refine T_qEq ⟨by omega, by omega⟩ ⟨by decide, by decide⟩ (fun h2 => ?_) (fun h2 => ?_)
    ·
      refine T_some ?_
      show (-9 ≤ (-9) ∧ (-9) ≤ 7)
      exact (by omega)
    ·
      refine T_qEq ⟨by omega, by omega⟩ ⟨by decide, by decide⟩ (fun h3 => ?_) (fun h3 => ?_)
      ·
        refine T_some ?_
        show (-9 ≤ 7 ∧ 7 ≤ 7)
        exact (by omega)
      ·
        refine T_qEq ⟨by omega, by omega⟩ ⟨by decide, by decide⟩ (fun h4 => ?_) (fun h4 => ?_)
        ·
          refine T_some ?_
          show (-9 ≤ (-9) ∧ (-9) ≤ 7)
          exact (by omega)
        ·
          refine T_qEq ⟨by omega, by omega⟩ ⟨by decide, by decide⟩ (fun h5 => ?_) (fun h5 => ?_)
          ·
            refine T_some ?_
            show (-9 ≤ (-9) ∧ (-9) ≤ 7)
            exact (by omega)
          ·
            refine T_qEq ⟨by omega, by omega⟩ ⟨by decide, by decide⟩ (fun h6 => ?_) (fun h6 => ?_)
            ·
              refine T_some ?_
              show (-9 ≤ 4 ∧ 4 ≤ 7)
              exact (by omega)
            ·
              refine T_qEq ⟨by omega, by omega⟩ ⟨by decide, by decide⟩ (fun h7 => ?_) (fun h7 => ?_)
              ·
                refine T_some ?_
                show (-9 ≤ (-9) ∧ (-9) ≤ 7)
                exact (by omega)
              ·
                refine T_qEq ⟨by omega, by omega⟩ ⟨by decide, by decide⟩ (fun h8 => ?_) (fun h8 => ?_)
                ·
                  refine T_some ?_
                  show (-9 ≤ 3 ∧ 3 ≤ 7)
                  exact (by omega)
                ·
                  refine T_qEq ⟨by omega, by omega⟩ ⟨by decide, by decide⟩ (fun h9 => ?_) (fun h9 => ?_)
                  ·
                    refine T_some ?_
                    show (-9 ≤ 5 ∧ 5 ≤ 7)
                    exact (by omega)
                  ·
                    refine T_qEq ⟨by omega, by omega⟩ ⟨by decide, by decide⟩ (fun h10 => ?_) (fun h10 => ?_)
                    ·
                      refine T_some ?_
                      show (-9 ≤ (-9) ∧ (-9) ≤ 7)
                      exact (by omega)
                    ·
                      refine T_qEq ⟨by omega, by omega⟩ ⟨by decide, by decide⟩ (fun h11 => ?_) (fun h11 => ?_)
                      ·
                        refine T_some ?_
                        show (-9 ≤ 6 ∧ 6 ≤ 7)
                        exact (by omega)
                      ·
                        refine T_qEq ⟨by omega, by omega⟩ ⟨by decide, by decide⟩ (fun h12 => ?_) (fun h12 => ?_)
                        ·
                          refine T_some ?_
                          show (-9 ≤ (-9) ∧ (-9) ≤ 7)
                          exact (by omega)
                        ·
                          refine T_qEq ⟨by omega, by omega⟩ ⟨by decide, by decide⟩ (fun h13 => ?_) (fun h13 => ?_)
                          ·
                            refine T_some ?_
                            show (-9 ≤ (-9) ∧ (-9) ≤ 7)
                            exact (by omega)
                          ·
                            refine T_qEq ⟨by omega, by omega⟩ ⟨by decide, by decide⟩ (fun h14 => ?_) (fun h14 => ?_)
                            ·
                              refine T_some ?_
                              show (-9 ≤ 0 ∧ 0 ≤ 7)
                              exact (by omega)
                            ·
                              refine T_qEq ⟨by omega, by omega⟩ ⟨by decide, by decide⟩ (fun h15 => ?_) (fun h15 => ?_)
                              ·
                                refine T_some ?_
                                show (-9 ≤ 2 ∧ 2 ≤ 7)
                                exact (by omega)
                              ·
                                refine T_some ?_
                                show (-9 ≤ (-9) ∧ (-9) ≤ 7)
                                exact (by omega)
set_option maxHeartbeats 4000000 in
theorem tl_X12_reads_2 (x1 : Int) (i_o : OO) (i_x2 : Int) (hB_i_o : BoxM i_o) (k0 : 0 ≤ x1 ∧ x1 ≤ 3) (v0 : 0 ≤ i_x2 ∧ i_x2 ≤ 8) : T (loopW (fun s => l_X12_reads_2 x1 s.1 s.2) (i_o, i_x2)) (fun r => BoxM r ∧ (Fr [(10, 9999)] i_o r)) := by
  have fr_i_o : Fr [(10, 9999)] i_o i_o := Fr.rf
  refine T_loop (fun s => BoxM s.1 ∧ (Fr [(10, 9999)] i_o s.1) ∧ (0 ≤ s.2 ∧ s.2 ≤ 8)) (fun s => (8 - s.2).toNat) ⟨hB_i_o, fr_i_o, v0⟩ (fun s hs => ?_)
  obtain ⟨o, x2⟩ := s
  have hs : BoxM o ∧ (Fr [(10, 9999)] i_o o) ∧ (0 ≤ x2 ∧ x2 ≤ 8) := hs
  obtain ⟨hB_o, fr_o, w0⟩ := hs
  show T (l_X12_reads_2 x1 o x2) _
  unfold l_X12_reads_2
  refine T_qLt ⟨by omega, by omega⟩ ⟨by decide, by decide⟩ (fun h1 => ?_) (fun h1 => ?_)
  ·
    refine T_qIn ⟨by omega, by omega⟩ ?_
    refine T_qNm (fun o21 e_o21 => ?_)
    have hB_o21 : BoxM o21 := by rw [e_o21]; exact Box.s1 hB_o (show -9 ≤ (-9) ∧ (-9) ≤ 9999 from ⟨by omega, by omega⟩)
    have fr_o21 : Fr [(10, 9999)] i_o o21 := by rw [e_o21]; exact Fr.s1 fr_o rfl
    refine T_some ?_
    show (BoxM o21 ∧ (Fr [(10, 9999)] i_o o21) ∧ (0 ≤ (x2 + 1) ∧ (x2 + 1) ≤ 8)) ∧ (8 - (x2 + 1)).toNat < (8 - x2).toNat
    exact ⟨⟨hB_o21, fr_o21, (by omega)⟩, by omega⟩
  ·
    refine T_some ?_
    show BoxM o ∧ (Fr [(10, 9999)] i_o o)
    exact ⟨hB_o, fr_o⟩
set_option maxHeartbeats 4000000 in
theorem tl_X12_reads_76 (o : OO) (x1 : Int) (x3 : Int) (i_x2 : Int) (i_x4 : Int) (i_x5 : Int) (hB_o : BoxM o) (k0 : 0 ≤ x1 ∧ x1 ≤ 3) (v0 : 0 ≤ i_x2 ∧ i_x2 ≤ 40) (v1 : i_x2 ≤ i_x2) (v2 : 0 ≤ i_x5) (v3 : i_x4 = 0 ∧ i_x5 = 0 ∨ i_x4 = 1 ∧ i_x5 ≤ 9 ∨ i_x4 = 2 ∧ i_x5 ≤ 99 ∨ i_x4 = 3 ∧ i_x5 ≤ 999 ∨ i_x4 = 4 ∧ i_x5 ≤ 9999) : T (loopW (fun s => l_X12_reads_76 o x1 x3 s.1 s.2.1 s.2.2) (i_x2, i_x4, i_x5)) (fun r => (0 ≤ r.1 ∧ r.1 ≤ 40) ∧ (i_x2 ≤ r.1) ∧ (0 ≤ r.2.1 ∧ r.2.1 ≤ 4) ∧ (0 ≤ r.2.2 ∧ r.2.2 ≤ 9999)) := by
  refine T_loop (fun s => (0 ≤ s.1 ∧ s.1 ≤ 40) ∧ (i_x2 ≤ s.1) ∧ (0 ≤ s.2.2) ∧ (s.2.1 = 0 ∧ s.2.2 = 0 ∨ s.2.1 = 1 ∧ s.2.2 ≤ 9 ∨ s.2.1 = 2 ∧ s.2.2 ≤ 99 ∨ s.2.1 = 3 ∧ s.2.2 ≤ 999 ∨ s.2.1 = 4 ∧ s.2.2 ≤ 9999)) (fun s => (40 - s.1).toNat) ⟨v0, v1, v2, v3⟩ (fun s hs => ?_)
  obtain ⟨x2, x4, x5⟩ := s
  have hs : (0 ≤ x2 ∧ x2 ≤ 40) ∧ (i_x2 ≤ x2) ∧ (0 ≤ x5) ∧ (x4 = 0 ∧ x5 = 0 ∨ x4 = 1 ∧ x5 ≤ 9 ∨ x4 = 2 ∧ x5 ≤ 99 ∨ x4 = 3 ∧ x5 ≤ 999 ∨ x4 = 4 ∧ x5 ≤ 9999) := hs
  obtain ⟨w0, w1, w2, w3⟩ := hs
  show T (l_X12_reads_76 o x1 x3 x2 x4 x5) _
  unfold l_X12_reads_76
  refine T_qIn ⟨by omega, by omega⟩ ?_
  refine T_qNm (fun n6 e_n6 => ?_)
  have b_n6 : -9 ≤ n6 ∧ n6 ≤ 40 := by rw [e_n6]; exact bM_5 hB_o _
  refine T_qLt ⟨by omega, by omega⟩ ⟨by omega, by omega⟩ (fun h2 => ?_) (fun h2 => ?_)
  ·
    refine T_qLt ⟨by omega, by omega⟩ ⟨by decide, by decide⟩ (fun h3 => ?_) (fun h3 => ?_)
    ·
      refine T_qIn ⟨by omega, by omega⟩ ?_
      refine T_qNm (fun n8 e_n8 => ?_)
      have b_n8 : -128 ≤ n8 ∧ n8 ≤ 127 := by rw [e_n8]; exact bM_6 hB_o _
      refine T_qB (t_X12_in n8 48 57 (by omega) (by omega) (by omega)) (fun r9 hc_r9 hp4 => ?_)
      have hp4 : ((r9 = 1 ∧ 48 ≤ n8 ∧ n8 ≤ 57) ∨ (r9 = 0 ∧ (n8 < 48 ∨ 57 < n8))) := hp4
      refine T_qEq ⟨by omega, by omega⟩ ⟨by decide, by decide⟩ (fun h5 => ?_) (fun h5 => ?_)
      ·
        refine T_some ?_
        show (0 ≤ x2 ∧ x2 ≤ 40) ∧ (i_x2 ≤ x2) ∧ (0 ≤ x4 ∧ x4 ≤ 4) ∧ (0 ≤ x5 ∧ x5 ≤ 9999)
        exact ⟨(by omega), (by omega), (by omega), (by omega)⟩
      ·
        refine T_qIn ⟨by omega, by omega⟩ ?_
        refine T_qNm (fun n12 e_n12 => ?_)
        have b_n12 : -128 ≤ n12 ∧ n12 ≤ 127 := by rw [e_n12]; exact bM_6 hB_o _
        refine T_qNm (fun n13 e_n13 => ?_)
        refine T_some ?_
        show ((0 ≤ (x2 + 1) ∧ (x2 + 1) ≤ 40) ∧ (i_x2 ≤ (x2 + 1)) ∧ (0 ≤ n13) ∧ ((x4 + 1) = 0 ∧ n13 = 0 ∨ (x4 + 1) = 1 ∧ n13 ≤ 9 ∨ (x4 + 1) = 2 ∧ n13 ≤ 99 ∨ (x4 + 1) = 3 ∧ n13 ≤ 999 ∨ (x4 + 1) = 4 ∧ n13 ≤ 9999)) ∧ (40 - (x2 + 1)).toNat < (40 - x2).toNat
        exact ⟨⟨(by omega), (by omega), (by omega), (by omega)⟩, by omega⟩
    ·
      refine T_some ?_
      show (0 ≤ x2 ∧ x2 ≤ 40) ∧ (i_x2 ≤ x2) ∧ (0 ≤ x4 ∧ x4 ≤ 4) ∧ (0 ≤ x5 ∧ x5 ≤ 9999)
      exact ⟨(by omega), (by omega), (by omega), (by omega)⟩
  ·
    refine T_some ?_
    show (0 ≤ x2 ∧ x2 ≤ 40) ∧ (i_x2 ≤ x2) ∧ (0 ≤ x4 ∧ x4 ≤ 4) ∧ (0 ≤ x5 ∧ x5 ≤ 9999)
    exact ⟨(by omega), (by omega), (by omega), (by omega)⟩
set_option maxHeartbeats 4000000 in
theorem tl_X12_reads_24 (x1 : Int) (i_o : OO) (i_x2 : Int) (hB_i_o : BoxM i_o) (k0 : 0 ≤ x1 ∧ x1 ≤ 3) (v0 : 0 ≤ i_x2 ∧ i_x2 ≤ 40) : T (loopW (fun s => l_X12_reads_24 x1 s.1 s.2) (i_o, i_x2)) (Sum.elim (fun r => BoxM r.1 ∧ (Fr [(10, 9999)] i_o r.1) ∧ (0 ≤ r.2 ∧ r.2 ≤ 40)) (Sum.elim (fun r => BoxM r.1 ∧ (Fr [(10, 9999)] i_o r.1) ∧ (0 ≤ r.2 ∧ r.2 ≤ 40)) (fun r => BoxM r ∧ (Fr [(10, 9999)] i_o r)))) := by
  have fr_i_o : Fr [(10, 9999)] i_o i_o := Fr.rf
  refine T_loop (fun s => BoxM s.1 ∧ (Fr [(10, 9999)] i_o s.1) ∧ (0 ≤ s.2 ∧ s.2 ≤ 40)) (fun s => (40 - s.2).toNat) ⟨hB_i_o, fr_i_o, v0⟩ (fun s hs => ?_)
  obtain ⟨o, x2⟩ := s
  have hs : BoxM o ∧ (Fr [(10, 9999)] i_o o) ∧ (0 ≤ x2 ∧ x2 ≤ 40) := hs
  obtain ⟨hB_o, fr_o, w0⟩ := hs
  show T (l_X12_reads_24 x1 o x2) _
  unfold l_X12_reads_24
  refine T_qIn ⟨by omega, by omega⟩ ?_
  refine T_qNm (fun n15 e_n15 => ?_)
  have b_n15 : -9 ≤ n15 ∧ n15 ≤ 40 := by rw [e_n15]; exact bM_5 hB_o _
  refine T_qLt ⟨by omega, by omega⟩ ⟨by omega, by omega⟩ (fun h6 => ?_) (fun h6 => ?_)
  ·
    refine T_qIn ⟨by omega, by omega⟩ ?_
    refine T_qNm (fun n17 e_n17 => ?_)
    have b_n17 : -128 ≤ n17 ∧ n17 ≤ 127 := by rw [e_n17]; exact bM_6 hB_o _
    refine T_qEq ⟨by omega, by omega⟩ ⟨by decide, by decide⟩ (fun h7 => ?_) (fun h7 => ?_)
    ·
      refine T_some ?_
      show (BoxM o ∧ (Fr [(10, 9999)] i_o o) ∧ (0 ≤ (x2 + 1) ∧ (x2 + 1) ≤ 40)) ∧ (40 - (x2 + 1)).toNat < (40 - x2).toNat
      exact ⟨⟨hB_o, fr_o, (by omega)⟩, by omega⟩
    ·
      refine T_qB (t_X12_letter n17 (by omega)) (fun r18 hc_r18 hp8 => ?_)
      have hp8 : (-9 ≤ r18 ∧ r18 ≤ 7) := hp8
      refine T_qLt ⟨by omega, by omega⟩ ⟨by decide, by decide⟩ (fun h9 => ?_) (fun h9 => ?_)
      ·
        refine T_some ?_
        show BoxM o ∧ (Fr [(10, 9999)] i_o o) ∧ (0 ≤ x2 ∧ x2 ≤ 40)
        exact ⟨hB_o, fr_o, (by omega)⟩
      ·
        unfold e_X12_reads_76
        refine T_qB (tl_X12_reads_76 o x1 n17 (x2 + 1) 0 0 hB_o (by omega) (by omega) (by omega) (by omega) (by omega)) (fun r10 hc_r10 hp11 => ?_)
        obtain ⟨x2_12, x4_13, x5_14⟩ := r10
        have hp11 : (0 ≤ x2_12 ∧ x2_12 ≤ 40) ∧ ((x2 + 1) ≤ x2_12) ∧ (0 ≤ x4_13 ∧ x4_13 ≤ 4) ∧ (0 ≤ x5_14 ∧ x5_14 ≤ 9999) := hp11
        show T (b_X12_reads_144 o x1 x2_12 n17 x4_13 x5_14) _
        unfold b_X12_reads_144
        refine T_qEq ⟨by omega, by omega⟩ ⟨by decide, by decide⟩ (fun h15 => ?_) (fun h15 => ?_)
        ·
          refine T_some ?_
          show BoxM o ∧ (Fr [(10, 9999)] i_o o) ∧ (0 ≤ x2_12 ∧ x2_12 ≤ 40)
          exact ⟨hB_o, fr_o, (by omega)⟩
        ·
          refine T_qB (t_X12_letter n17 (by omega)) (fun r1 hc_r1 hp16 => ?_)
          have hp16 : (-9 ≤ r1 ∧ r1 ≤ 7) := hp16
          have hq9 := Option.some.inj (hc_r1.symm.trans hc_r18)
          refine T_qIn ⟨by omega, by omega⟩ ?_
          refine T_qNm (fun o4 e_o4 => ?_)
          have hB_o4 : BoxM o4 := by rw [e_o4]; exact Box.s1 hB_o (show -9 ≤ x5_14 ∧ x5_14 ≤ 9999 from ⟨by omega, by omega⟩)
          have fr_o4 : Fr [(10, 9999)] i_o o4 := by rw [e_o4]; exact Fr.s1 fr_o rfl
          refine T_some ?_
          show (BoxM o4 ∧ (Fr [(10, 9999)] i_o o4) ∧ (0 ≤ x2_12 ∧ x2_12 ≤ 40)) ∧ (40 - x2_12).toNat < (40 - x2).toNat
          exact ⟨⟨hB_o4, fr_o4, (by omega)⟩, by omega⟩
  ·
    refine T_some ?_
    show BoxM o ∧ (Fr [(10, 9999)] i_o o)
    exact ⟨hB_o, fr_o⟩
set_option maxHeartbeats 4000000 in
theorem t_X12_reads (o : OO) (x1 : Int) (hB_o : BoxM o) (k0 : 0 ≤ x1 ∧ x1 ≤ 3) : T (s_X12_reads o x1) (fun v => BoxM v.2 ∧ (Fr [(10, 9999)] o v.2) ∧ (-9 ≤ v.1 ∧ v.1 ≤ 40)) := by
  have fr_o : Fr [(10, 9999)] o o := Fr.rf
  unfold s_X12_reads
  unfold e_X12_reads_2
  refine T_qB (tl_X12_reads_2 x1 o 0 hB_o (by omega) (by omega)) (fun r17 hc_r17 hp18 => ?_)
  obtain ⟨o_19, q_o_19⟩ : ∃ q, q = r17 := ⟨_, rfl⟩
  subst q_o_19
  have hp18 : BoxM o_19 ∧ (Fr [(10, 9999)] o o_19) := hp18
  obtain ⟨hB_o_19, fc_o_19⟩ := hp18
  have fr_o_19 : Fr [(10, 9999)] o o_19 := Fr.tr fr_o fc_o_19 rfl
  show T (b_X12_reads_22 o_19 x1) _
  unfold b_X12_reads_22
  unfold e_X12_reads_24
  refine T_qB (tl_X12_reads_24 x1 o_19 0 hB_o_19 (by omega) (by omega)) (fun r20 hc_r20 hp21 => ?_)
  rcases r20 with r20 | r20 | r20
  ·
    obtain ⟨o_22, x2_23⟩ := r20
    have hp21 : BoxM o_22 ∧ (Fr [(10, 9999)] o_19 o_22) ∧ (0 ≤ x2_23 ∧ x2_23 ≤ 40) := hp21
    obtain ⟨hB_o_22, fc_o_22, hp21⟩ := hp21
    have fr_o_22 : Fr [(10, 9999)] o o_22 := Fr.tr fr_o_19 fc_o_22 rfl
    show T (b_X12_reads_65 o_22 x2_23) _
    unfold b_X12_reads_65
    refine T_some ?_
    show BoxM o_22 ∧ (Fr [(10, 9999)] o o_22) ∧ (-9 ≤ x2_23 ∧ x2_23 ≤ 40)
    exact ⟨hB_o_22, fr_o_22, (by omega)⟩
  ·
    obtain ⟨o_24, x2_25⟩ := r20
    have hp21 : BoxM o_24 ∧ (Fr [(10, 9999)] o_19 o_24) ∧ (0 ≤ x2_25 ∧ x2_25 ≤ 40) := hp21
    obtain ⟨hB_o_24, fc_o_24, hp21⟩ := hp21
    have fr_o_24 : Fr [(10, 9999)] o o_24 := Fr.tr fr_o_19 fc_o_24 rfl
    show T (b_X12_reads_149 o_24 x2_25) _
    unfold b_X12_reads_149
    refine T_some ?_
    show BoxM o_24 ∧ (Fr [(10, 9999)] o o_24) ∧ (-9 ≤ x2_25 ∧ x2_25 ≤ 40)
    exact ⟨hB_o_24, fr_o_24, (by omega)⟩
  ·
    obtain ⟨o_26, q_o_26⟩ : ∃ q, q = r20 := ⟨_, rfl⟩
    subst q_o_26
    have hp21 : BoxM o_26 ∧ (Fr [(10, 9999)] o_19 o_26) := hp21
    obtain ⟨hB_o_26, fc_o_26⟩ := hp21
    have fr_o_26 : Fr [(10, 9999)] o o_26 := Fr.tr fr_o_19 fc_o_26 rfl
    show T (b_X12_reads_165 o_26) _
    unfold b_X12_reads_165
    refine T_some ?_
    show BoxM o_26 ∧ (Fr [(10, 9999)] o o_26) ∧ (-9 ≤ (-9) ∧ (-9) ≤ 40)
    exact ⟨hB_o_26, fr_o_26, (by omega)⟩
set_option maxHeartbeats 4000000 in
theorem t_X12_fault (o : OO) (x1 : Int) (hB_o : BoxM o) (k0 : inR x1) : T (s_X12_fault o x1) (fun v => BoxM v.2 ∧ (Fr [(0, 0), (1, 9999), (10, 9999)] o v.2)) := by
  have fr_o : Fr [(0, 0), (1, 9999), (10, 9999)] o o := Fr.rf
  unfold s_X12_fault
  refine T_qB2 (t_X12_askedText o x1 hB_o (by omega)) (fun r1 o3 hc_r1 hp1 => ?_)
  have hp1 : BoxM o3 ∧ (Fr [(0, 0), (1, 9999)] o o3) ∧ (r1 = -1 ∨ r1 = -3 ∨ (r1 = 0 ∧ 0 ≤ x1 ∧ x1 ≤ 3 ∧ 0 ≤ o3.1 5 x1.toNat)) := hp1
  obtain ⟨hB_o3, fc_o3, hp1⟩ := hp1
  have fr_o3 : Fr [(0, 0), (1, 9999), (10, 9999)] o o3 := Fr.tr fr_o fc_o3 rfl
  refine T_qLt ⟨by omega, by omega⟩ ⟨by decide, by decide⟩ (fun h2 => ?_) (fun h2 => ?_)
  ·
    unfold b_X12_fault_19
    refine T_some ?_
    show BoxM o3 ∧ (Fr [(0, 0), (1, 9999), (10, 9999)] o o3)
    exact ⟨hB_o3, fr_o3⟩
  ·
    refine T_qB2 (t_X12_reads o3 x1 hB_o3 (by omega)) (fun r4 o6 hc_r4 hp3 => ?_)
    have hp3 : BoxM o6 ∧ (Fr [(10, 9999)] o3 o6) ∧ (-9 ≤ r4 ∧ r4 ≤ 40) := hp3
    obtain ⟨hB_o6, fc_o6, hp3⟩ := hp3
    have fr_o6 : Fr [(0, 0), (1, 9999), (10, 9999)] o o6 := Fr.tr fr_o3 fc_o6 rfl
    unfold b_X12_fault_19
    refine T_some ?_
    show BoxM o6 ∧ (Fr [(0, 0), (1, 9999), (10, 9999)] o o6)
    exact ⟨hB_o6, fr_o6⟩
set_option maxHeartbeats 4000000 in
theorem t_X12_finding (o : OO) (hB_o : BoxM o) : T (s_X12_finding o) (fun _ => True) := by
  have g0_0_o := bM_0_0 hB_o
  unfold s_X12_finding
  refine T_some ?_
  show True
  exact trivial
set_option maxHeartbeats 4000000 in
theorem t_X12_findings (o : OO) (x1 : Int) (hB_o : BoxM o) (k0 : inR x1) : T (s_X12_findings o x1) (fun _ => True) := by
  unfold s_X12_findings
  refine T_qB (t_X12_in x1 1 5 (by omega) (by omega) (by omega)) (fun r1 hc_r1 hp1 => ?_)
  have hp1 : ((r1 = 1 ∧ 1 ≤ x1 ∧ x1 ≤ 5) ∨ (r1 = 0 ∧ (x1 < 1 ∨ 5 < x1))) := hp1
  refine T_qEq ⟨by omega, by omega⟩ ⟨by decide, by decide⟩ (fun h2 => ?_) (fun h2 => ?_)
  ·
    unfold b_X12_findings_19
    refine T_some ?_
    show True
    exact trivial
  ·
    refine T_qIn ⟨by omega, by omega⟩ ?_
    refine T_qNm (fun n4 e_n4 => ?_)
    unfold b_X12_findings_19
    refine T_some ?_
    show True
    exact trivial
set_option maxHeartbeats 4000000 in
theorem t_X12_isDay (x0 : Int) (k0 : inR x0) : T (s_X12_isDay x0) (fun v => ((v = 1 ∧ 0 ≤ x0 ∧ x0 ≤ 999) ∨ (v = 0 ∧ (x0 < 0 ∨ 999 < x0)))) := by
  unfold s_X12_isDay
  refine T_qB (t_X12_in x0 0 999 (by omega) (by omega) (by omega)) (fun r1 hc_r1 hp1 => ?_)
  have hp1 : ((r1 = 1 ∧ 0 ≤ x0 ∧ x0 ≤ 999) ∨ (r1 = 0 ∧ (x0 < 0 ∨ 999 < x0))) := hp1
  refine T_qZ (by omega) ?_
  refine T_some ?_
  show ((r1 = 1 ∧ 0 ≤ x0 ∧ x0 ≤ 999) ∨ (r1 = 0 ∧ (x0 < 0 ∨ 999 < x0)))
  exact (by omega)
set_option maxHeartbeats 4000000 in
theorem t_X12_isAsked (x0 : Int) (x1 : Int) (x2 : Int) (k0 : inR x0) (k1 : inR x1) (k2 : inR x2) : T (s_X12_isAsked x0 x1 x2) (fun v => ((v = 1 ∧ 0 ≤ x0 ∧ x0 ≤ 7) ∨ v = 0)) := by
  unfold s_X12_isAsked
  refine T_qB (t_X12_in x0 0 7 (by omega) (by omega) (by omega)) (fun r1 hc_r1 hp1 => ?_)
  have hp1 : ((r1 = 1 ∧ 0 ≤ x0 ∧ x0 ≤ 7) ∨ (r1 = 0 ∧ (x0 < 0 ∨ 7 < x0))) := hp1
  refine T_qEq ⟨by omega, by omega⟩ ⟨by decide, by decide⟩ (fun h2 => ?_) (fun h2 => ?_)
  ·
    unfold b_X12_isAsked_28
    unfold b_X12_isAsked_29
    refine T_qZ (Or.inl rfl) ?_
    refine T_some ?_
    show ((0 = 1 ∧ 0 ≤ x0 ∧ x0 ≤ 7) ∨ 0 = 0)
    exact (by omega)
  ·
    refine T_qB (t_X12_isDay x1 (by omega)) (fun r3 hc_r3 hp3 => ?_)
    have hp3 : ((r3 = 1 ∧ 0 ≤ x1 ∧ x1 ≤ 999) ∨ (r3 = 0 ∧ (x1 < 0 ∨ 999 < x1))) := hp3
    refine T_qEq ⟨by omega, by omega⟩ ⟨by decide, by decide⟩ (fun h4 => ?_) (fun h4 => ?_)
    ·
      unfold b_X12_isAsked_28
      unfold b_X12_isAsked_29
      refine T_qZ (Or.inl rfl) ?_
      refine T_some ?_
      show ((0 = 1 ∧ 0 ≤ x0 ∧ x0 ≤ 7) ∨ 0 = 0)
      exact (by omega)
    ·
      refine T_qB (t_X12_isDay x2 (by omega)) (fun r5 hc_r5 hp5 => ?_)
      have hp5 : ((r5 = 1 ∧ 0 ≤ x2 ∧ x2 ≤ 999) ∨ (r5 = 0 ∧ (x2 < 0 ∨ 999 < x2))) := hp5
      refine T_qEq ⟨by omega, by omega⟩ ⟨by decide, by decide⟩ (fun h6 => ?_) (fun h6 => ?_)
      ·
        unfold b_X12_isAsked_28
        unfold b_X12_isAsked_29
        refine T_qZ (Or.inl rfl) ?_
        refine T_some ?_
        show ((0 = 1 ∧ 0 ≤ x0 ∧ x0 ≤ 7) ∨ 0 = 0)
        exact (by omega)
      ·
        unfold b_X12_isAsked_29
        refine T_qZ (Or.inr rfl) ?_
        refine T_some ?_
        show ((1 = 1 ∧ 0 ≤ x0 ∧ x0 ≤ 7) ∨ 1 = 0)
        exact (by omega)
set_option maxHeartbeats 4000000 in
theorem t_X12_force (o : OO) (x1 : Int) (x2 : Int) (x3 : Int) (hB_o : BoxM o) (k0 : inR x1) (k1 : inR x2) (k2 : inR x3) : T (s_X12_force o x1 x2 x3) (fun _ => True) := by
  unfold s_X12_force
  refine T_qB (t_X12_isAsked x1 x2 x3 (by omega) (by omega) (by omega)) (fun r1 hc_r1 hp1 => ?_)
  have hp1 : ((r1 = 1 ∧ 0 ≤ x1 ∧ x1 ≤ 7) ∨ r1 = 0) := hp1
  refine T_qEq ⟨by omega, by omega⟩ ⟨by decide, by decide⟩ (fun h2 => ?_) (fun h2 => ?_)
  ·
    unfold b_X12_force_20
    refine T_some ?_
    show True
    exact trivial
  ·
    refine T_qB (t_X12_inForce o x1 x2 x3 hB_o (by omega) (by omega) (by omega)) (fun r3 hc_r3 hp3 => ?_)
    have hp3 : (0 ≤ r3 ∧ r3 ≤ 9999) := hp3
    unfold b_X12_force_20
    refine T_some ?_
    show True
    exact trivial
set_option maxHeartbeats 4000000 in
theorem t_X12_enter (o : OO) (x1 : Int) (x2 : Int) (hB_o : BoxM o) (k0 : 0 ≤ x1 ∧ x1 ≤ 6) (k1 : -9 ≤ x2 ∧ x2 ≤ 23) (k2 : o.1 0 32 ≤ 23) : T (s_X12_enter o x1 x2) (fun v => BoxM v.2 ∧ (Fr [(0, 32), (25, 9999), (26, 9999), (27, 9999), (29, 9999), (30, 9999)] o v.2) ∧ (v.1 = o.1 0 32) ∧ (v.2.1 0 32 = o.1 0 32 + 1)) := by
  have fr_o : Fr [(0, 32), (25, 9999), (26, 9999), (27, 9999), (29, 9999), (30, 9999)] o o := Fr.rf
  have g0_32_o := bM_0_32 hB_o
  have g0_4_o := bM_0_4 hB_o
  unfold s_X12_enter
  refine T_qIn ⟨by omega, by omega⟩ ?_
  refine T_qNm (fun o2 e_o2 => ?_)
  have hB_o2 : BoxM o2 := by rw [e_o2]; exact Box.s1 hB_o (show 0 ≤ x1 ∧ x1 ≤ 6 from ⟨by omega, by omega⟩)
  have fr_o2 : Fr [(0, 32), (25, 9999), (26, 9999), (27, 9999), (29, 9999), (30, 9999)] o o2 := by rw [e_o2]; exact Fr.s1 fr_o rfl
  have g0_32_o2 : o2.1 0 32 = o.1 0 32 := by rw [e_o2]; rfl
  have g0_4_o2 : o2.1 0 4 = o.1 0 4 := by rw [e_o2]; rfl
  refine T_qIn ⟨by omega, by omega⟩ ?_
  refine T_qNm (fun o4 e_o4 => ?_)
  have hB_o4 : BoxM o4 := by rw [e_o4]; exact Box.s1 hB_o2 (show 0 ≤ (o2.1 0 4) ∧ (o2.1 0 4) ≤ 999 from ⟨by omega, by omega⟩)
  have fr_o4 : Fr [(0, 32), (25, 9999), (26, 9999), (27, 9999), (29, 9999), (30, 9999)] o o4 := by rw [e_o4]; exact Fr.s1 fr_o2 rfl
  have g0_32_o4 : o4.1 0 32 = o2.1 0 32 := by rw [e_o4]; rfl
  have g0_4_o4 : o4.1 0 4 = o2.1 0 4 := by rw [e_o4]; rfl
  refine T_qIn ⟨by omega, by omega⟩ ?_
  refine T_qNm (fun o6 e_o6 => ?_)
  have hB_o6 : BoxM o6 := by rw [e_o6]; exact Box.s1 hB_o4 (show -9 ≤ x2 ∧ x2 ≤ 23 from ⟨by omega, by omega⟩)
  have fr_o6 : Fr [(0, 32), (25, 9999), (26, 9999), (27, 9999), (29, 9999), (30, 9999)] o o6 := by rw [e_o6]; exact Fr.s1 fr_o4 rfl
  have g0_32_o6 : o6.1 0 32 = o4.1 0 32 := by rw [e_o6]; rfl
  have g0_4_o6 : o6.1 0 4 = o4.1 0 4 := by rw [e_o6]; rfl
  refine T_qIn ⟨by omega, by omega⟩ ?_
  refine T_qNm (fun o8 e_o8 => ?_)
  have hB_o8 : BoxM o8 := by rw [e_o8]; exact Box.s1 hB_o6 (show -9 ≤ (-9) ∧ (-9) ≤ 999 from ⟨by omega, by omega⟩)
  have fr_o8 : Fr [(0, 32), (25, 9999), (26, 9999), (27, 9999), (29, 9999), (30, 9999)] o o8 := by rw [e_o8]; exact Fr.s1 fr_o6 rfl
  have g0_32_o8 : o8.1 0 32 = o6.1 0 32 := by rw [e_o8]; rfl
  have g0_4_o8 : o8.1 0 4 = o6.1 0 4 := by rw [e_o8]; rfl
  refine T_qIn ⟨by omega, by omega⟩ ?_
  refine T_qNm (fun o10 e_o10 => ?_)
  have hB_o10 : BoxM o10 := by rw [e_o10]; exact Box.s1 hB_o8 (show 0 ≤ 0 ∧ 0 ≤ 64 from ⟨by omega, by omega⟩)
  have fr_o10 : Fr [(0, 32), (25, 9999), (26, 9999), (27, 9999), (29, 9999), (30, 9999)] o o10 := by rw [e_o10]; exact Fr.s1 fr_o8 rfl
  have g0_32_o10 : o10.1 0 32 = o8.1 0 32 := by rw [e_o10]; rfl
  have g0_4_o10 : o10.1 0 4 = o8.1 0 4 := by rw [e_o10]; rfl
  refine T_qNm (fun o11 e_o11 => ?_)
  have hB_o11 : BoxM o11 := by rw [e_o11]; exact Box.s1 hB_o10 (show 0 ≤ ((o10.1 0 32) + 1) ∧ ((o10.1 0 32) + 1) ≤ 24 from ⟨by omega, by omega⟩)
  have fr_o11 : Fr [(0, 32), (25, 9999), (26, 9999), (27, 9999), (29, 9999), (30, 9999)] o o11 := by rw [e_o11]; exact Fr.s1 fr_o10 rfl
  have g0_32_o11 : o11.1 0 32 = ((o10.1 0 32) + 1) := by rw [e_o11]; rfl
  have g0_4_o11 : o11.1 0 4 = o10.1 0 4 := by rw [e_o11]; rfl
  refine T_some ?_
  show BoxM o11 ∧ (Fr [(0, 32), (25, 9999), (26, 9999), (27, 9999), (29, 9999), (30, 9999)] o o11) ∧ (((o11.1 0 32) - 1) = o.1 0 32) ∧ (o11.1 0 32 = o.1 0 32 + 1)
  exact ⟨hB_o11, fr_o11, (by omega), (by omega)⟩
set_option maxHeartbeats 4000000 in
theorem t_X12_grant (o : OO) (x1 : Int) (x2 : Int) (hB_o : BoxM o) (k0 : inR x1) (k1 : inR x2) : T (s_X12_grant o x1 x2) (fun v => BoxM v.2 ∧ (Fr [(0, 32), (25, 9999), (26, 9999), (27, 9999), (29, 9999), (30, 9999), (35, 9999), (36, 9999)] o v.2)) := by
  have fr_o : Fr [(0, 32), (25, 9999), (26, 9999), (27, 9999), (29, 9999), (30, 9999), (35, 9999), (36, 9999)] o o := Fr.rf
  have g0_32_o := bM_0_32 hB_o
  unfold s_X12_grant
  refine T_qB (t_X12_in x1 1 10 (by omega) (by omega) (by omega)) (fun r1 hc_r1 hp1 => ?_)
  have hp1 : ((r1 = 1 ∧ 1 ≤ x1 ∧ x1 ≤ 10) ∨ (r1 = 0 ∧ (x1 < 1 ∨ 10 < x1))) := hp1
  refine T_qEq ⟨by omega, by omega⟩ ⟨by decide, by decide⟩ (fun h2 => ?_) (fun h2 => ?_)
  ·
    unfold b_X12_grant_17
    refine T_some ?_
    show BoxM o ∧ (Fr [(0, 32), (25, 9999), (26, 9999), (27, 9999), (29, 9999), (30, 9999), (35, 9999), (36, 9999)] o o)
    exact ⟨hB_o, fr_o⟩
  ·
    refine T_qB (t_X12_isDay x2 (by omega)) (fun r3 hc_r3 hp3 => ?_)
    have hp3 : ((r3 = 1 ∧ 0 ≤ x2 ∧ x2 ≤ 999) ∨ (r3 = 0 ∧ (x2 < 0 ∨ 999 < x2))) := hp3
    refine T_qEq ⟨by omega, by omega⟩ ⟨by decide, by decide⟩ (fun h4 => ?_) (fun h4 => ?_)
    ·
      unfold b_X12_grant_17
      refine T_some ?_
      show BoxM o ∧ (Fr [(0, 32), (25, 9999), (26, 9999), (27, 9999), (29, 9999), (30, 9999), (35, 9999), (36, 9999)] o o)
      exact ⟨hB_o, fr_o⟩
    ·
      refine T_qEq ⟨by omega, by omega⟩ ⟨by decide, by decide⟩ (fun h5 => ?_) (fun h5 => ?_)
      ·
        refine T_some ?_
        show BoxM o ∧ (Fr [(0, 32), (25, 9999), (26, 9999), (27, 9999), (29, 9999), (30, 9999), (35, 9999), (36, 9999)] o o)
        exact ⟨hB_o, fr_o⟩
      ·
        refine T_qB2 (t_X12_enter o 5 (-9) hB_o (by omega) (by omega) (by omega)) (fun r5 o7 hc_r5 hp6 => ?_)
        have hp6 : BoxM o7 ∧ (Fr [(0, 32), (25, 9999), (26, 9999), (27, 9999), (29, 9999), (30, 9999)] o o7) ∧ (r5 = o.1 0 32) ∧ (o7.1 0 32 = o.1 0 32 + 1) := hp6
        obtain ⟨hB_o7, fc_o7, hp6⟩ := hp6
        have fr_o7 : Fr [(0, 32), (25, 9999), (26, 9999), (27, 9999), (29, 9999), (30, 9999), (35, 9999), (36, 9999)] o o7 := Fr.tr fr_o fc_o7 rfl
        have g0_32_o7 := bM_0_32 hB_o7
        refine T_qIn ⟨by omega, by omega⟩ ?_
        refine T_qNm (fun o9 e_o9 => ?_)
        have hB_o9 : BoxM o9 := by rw [e_o9]; exact Box.s1 hB_o7 (show 0 ≤ x1 ∧ x1 ≤ 63 from ⟨by omega, by omega⟩)
        have fr_o9 : Fr [(0, 32), (25, 9999), (26, 9999), (27, 9999), (29, 9999), (30, 9999), (35, 9999), (36, 9999)] o o9 := by rw [e_o9]; exact Fr.s1 fr_o7 rfl
        have g0_32_o9 : o9.1 0 32 = o7.1 0 32 := by rw [e_o9]; rfl
        refine T_qIn ⟨by omega, by omega⟩ ?_
        refine T_qNm (fun o11 e_o11 => ?_)
        have hB_o11 : BoxM o11 := by rw [e_o11]; exact Box.s1 hB_o9 (show 0 ≤ x2 ∧ x2 ≤ 999 from ⟨by omega, by omega⟩)
        have fr_o11 : Fr [(0, 32), (25, 9999), (26, 9999), (27, 9999), (29, 9999), (30, 9999), (35, 9999), (36, 9999)] o o11 := by rw [e_o11]; exact Fr.s1 fr_o9 rfl
        have g0_32_o11 : o11.1 0 32 = o9.1 0 32 := by rw [e_o11]; rfl
        refine T_some ?_
        show BoxM o11 ∧ (Fr [(0, 32), (25, 9999), (26, 9999), (27, 9999), (29, 9999), (30, 9999), (35, 9999), (36, 9999)] o o11)
        exact ⟨hB_o11, fr_o11⟩
