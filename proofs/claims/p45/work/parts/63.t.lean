set_option maxRecDepth 20000 in
set_option maxHeartbeats 4000000 in
theorem t_X12_inForce (o : OO) (x1 : Int) (x2 : Int) (x3 : Int) (hB_o : BoxM o) (k0 : 0 ≤ x1 ∧ x1 ≤ 7) (k1 : inR x2) (k2 : inR x3) : T (s_X12_inForce o x1 x2 x3) (fun v => (0 ≤ v ∧ v ≤ 9999)) := by
  have g0_10_o := bM_0_10 hB_o
  unfold s_X12_inForce
  refine T_qB (t_X12_ruleFor o x1 x2 x3 hB_o (by omega) (by omega) (by omega)) (fun r1 hc_r1 hp1 => ?_)
  replace hp1 : ((r1 = -9 ∨ (0 ≤ r1 ∧ 0 ≤ o.1 9 (8 * r1 + x1).toNat)) ∧ r1 < o.1 0 10) := hp1
  refine T_qLt ⟨by omega, by omega⟩ ⟨by decide, by decide⟩ (fun h2 => ?_) (fun h2 => ?_)
  ·
    refine T_qEq ⟨by omega, by omega⟩ ⟨by decide, by decide⟩ (fun h3 => ?_) (fun h3 => ?_)
    ·
      refine T_some ?_
      show (0 ≤ 10 ∧ 10 ≤ 9999)
      exact (by omega)
    ·
      refine T_qEq ⟨by omega, by omega⟩ ⟨by decide, by decide⟩ (fun h4 => ?_) (fun h4 => ?_)
      ·
        refine T_some ?_
        show (0 ≤ 20 ∧ 20 ≤ 9999)
        exact (by omega)
      ·
        refine T_qEq ⟨by omega, by omega⟩ ⟨by decide, by decide⟩ (fun h5 => ?_) (fun h5 => ?_)
        ·
          refine T_some ?_
          show (0 ≤ 100 ∧ 100 ≤ 9999)
          exact (by omega)
        ·
          refine T_qEq ⟨by omega, by omega⟩ ⟨by decide, by decide⟩ (fun h6 => ?_) (fun h6 => ?_)
          ·
            refine T_some ?_
            show (0 ≤ 50 ∧ 50 ≤ 9999)
            exact (by omega)
          ·
            refine T_qEq ⟨by omega, by omega⟩ ⟨by decide, by decide⟩ (fun h7 => ?_) (fun h7 => ?_)
            ·
              refine T_some ?_
              show (0 ≤ 2 ∧ 2 ≤ 9999)
              exact (by omega)
            ·
              refine T_qEq ⟨by omega, by omega⟩ ⟨by decide, by decide⟩ (fun h8 => ?_) (fun h8 => ?_)
              ·
                refine T_some ?_
                show (0 ≤ 60 ∧ 60 ≤ 9999)
                exact (by omega)
              ·
                refine T_qEq ⟨by omega, by omega⟩ ⟨by decide, by decide⟩ (fun h9 => ?_) (fun h9 => ?_)
                ·
                  refine T_some ?_
                  show (0 ≤ 3 ∧ 3 ≤ 9999)
                  exact (by omega)
                ·
                  refine T_some ?_
                  show (0 ≤ 7 ∧ 7 ≤ 9999)
                  exact (by omega)
  ·
    refine T_qIn ⟨by omega, by omega⟩ ?_
    refine T_qNm (fun n4 e_n4 => ?_)
    have b_n4 : -9 ≤ n4 ∧ n4 ≤ 9999 := by rw [e_n4]; exact bM_9 hB_o _
    refine T_some ?_
    show (0 ≤ n4 ∧ n4 ≤ 9999)
    exact (by omega)
set_option maxRecDepth 20000 in
set_option maxHeartbeats 4000000 in
theorem t_X12_nowInForce (o : OO) (x1 : Int) (hB_o : BoxM o) (k0 : 0 ≤ x1 ∧ x1 ≤ 7) : T (s_X12_nowInForce o x1) (fun v => (0 ≤ v ∧ v ≤ 9999)) := by
  have g0_4_o := bM_0_4 hB_o
  unfold s_X12_nowInForce
  refine T_qB (t_X12_inForce o x1 (o.1 0 4) (o.1 0 4) hB_o (by omega) (by omega) (by omega)) (fun r1 hc_r1 hp1 => ?_)
  replace hp1 : (0 ≤ r1 ∧ r1 ≤ 9999) := hp1
  refine T_some ?_
  show (0 ≤ r1 ∧ r1 ≤ 9999)
  exact (by omega)
set_option maxRecDepth 20000 in
set_option maxHeartbeats 4000000 in
theorem t_X12_apart (x0 : Int) (x1 : Int) (k0 : 0 ≤ x0 ∧ x0 ≤ 63) (k1 : 0 ≤ x1 ∧ x1 ≤ 63) : T (s_X12_apart x0 x1) (fun v => (0 ≤ v ∧ v ≤ 14)) := by
  unfold s_X12_apart
  refine T_qDv ⟨⟨by omega, by omega⟩, ⟨by decide, by decide⟩, by decide⟩ ?_
  have jd1 : jq x0 8 = x0 / 8 := jq_nn (by omega)
  refine T_qDv ⟨⟨by omega, by omega⟩, ⟨by decide, by decide⟩, by decide⟩ ?_
  have jd2 : jq x1 8 = x1 / 8 := jq_nn (by omega)
  refine T_qNm (fun n3 e_n3 => ?_)
  refine T_qDv ⟨⟨by omega, by omega⟩, ⟨by decide, by decide⟩, by decide⟩ ?_
  have jd3 : jq x0 8 = x0 / 8 := jq_nn (by omega)
  refine T_qDv ⟨⟨by omega, by omega⟩, ⟨by decide, by decide⟩, by decide⟩ ?_
  have jd4 : jq x1 8 = x1 / 8 := jq_nn (by omega)
  refine T_qNm (fun n6 e_n6 => ?_)
  refine T_qLt ⟨by omega, by omega⟩ ⟨by decide, by decide⟩ (fun h5 => ?_) (fun h5 => ?_)
  ·
    unfold b_X12_apart_30
    refine T_qLt ⟨by omega, by omega⟩ ⟨by decide, by decide⟩ (fun h6 => ?_) (fun h6 => ?_)
    ·
      unfold b_X12_apart_40
      refine T_some ?_
      show (0 ≤ ((-n3) + (-n6)) ∧ ((-n3) + (-n6)) ≤ 14)
      exact (by omega)
    ·
      unfold b_X12_apart_40
      refine T_some ?_
      show (0 ≤ ((-n3) + n6) ∧ ((-n3) + n6) ≤ 14)
      exact (by omega)
  ·
    unfold b_X12_apart_30
    refine T_qLt ⟨by omega, by omega⟩ ⟨by decide, by decide⟩ (fun h7 => ?_) (fun h7 => ?_)
    ·
      unfold b_X12_apart_40
      refine T_some ?_
      show (0 ≤ (n3 + (-n6)) ∧ (n3 + (-n6)) ≤ 14)
      exact (by omega)
    ·
      unfold b_X12_apart_40
      refine T_some ?_
      show (0 ≤ (n3 + n6) ∧ (n3 + n6) ≤ 14)
      exact (by omega)
set_option maxRecDepth 20000 in
set_option maxHeartbeats 4000000 in
theorem tl_X12_noiseOf_8 (o : OO) (x1 : Int) (x2 : Int) (x3 : Int) (i_x4 : Int) (i_x5 : Int) (hB_o : BoxM o) (k0 : 0 ≤ x1 ∧ x1 ≤ 23) (k1 : 0 ≤ x2 ∧ x2 ≤ 63) (k2 : 0 ≤ x3 ∧ x3 ≤ 5) (v0 : 0 ≤ i_x5 ∧ i_x5 ≤ 64) (v1 : (i_x4 = 100000000 ∨ (0 ≤ i_x4 ∧ i_x4 ≤ 14))) : T (loopW (fun s => l_X12_noiseOf_8 o x1 x2 x3 s.1 s.2) (i_x4, i_x5)) (fun r => ((r = 100000000 ∨ (0 ≤ r ∧ r ≤ 14)))) := by
  refine T_loop (fun s => (0 ≤ s.2 ∧ s.2 ≤ 64) ∧ ((s.1 = 100000000 ∨ (0 ≤ s.1 ∧ s.1 ≤ 14)))) (fun s => (64 - s.2).toNat) (by exact ⟨v0, v1⟩) (fun s hs => ?_)
  obtain ⟨x4, x5⟩ := s
  replace hs : (0 ≤ x5 ∧ x5 ≤ 64) ∧ ((x4 = 100000000 ∨ (0 ≤ x4 ∧ x4 ≤ 14))) := hs
  obtain ⟨w0, w1⟩ := hs
  show T (l_X12_noiseOf_8 o x1 x2 x3 x4 x5) _
  unfold l_X12_noiseOf_8
  refine T_qIn ⟨by omega, by omega⟩ ?_
  refine T_qNm (fun n6 e_n6 => ?_)
  have b_n6 : 0 ≤ n6 ∧ n6 ≤ 64 := by rw [e_n6]; exact bM_30 hB_o _
  refine T_qLt ⟨by omega, by omega⟩ ⟨by omega, by omega⟩ (fun h1 => ?_) (fun h1 => ?_)
  ·
    refine T_qIn ⟨by omega, by omega⟩ ?_
    refine T_qNm (fun n8 e_n8 => ?_)
    have b_n8 : 0 ≤ n8 ∧ n8 ≤ 63 := by rw [e_n8]; exact bM_31 hB_o _
    refine T_qB (t_X12_apart n8 x2 (by omega) (by omega)) (fun r9 hc_r9 hp2 => ?_)
    replace hp2 : (0 ≤ r9 ∧ r9 ≤ 14) := hp2
    refine T_qLt ⟨by omega, by omega⟩ ⟨by omega, by omega⟩ (fun h3 => ?_) (fun h3 => ?_)
    ·
      unfold b_X12_noiseOf_51
      refine T_some ?_
      show ((0 ≤ (x5 + 1) ∧ (x5 + 1) ≤ 64) ∧ ((r9 = 100000000 ∨ (0 ≤ r9 ∧ r9 ≤ 14)))) ∧ (64 - (x5 + 1)).toNat < (64 - x5).toNat
      exact ⟨⟨(by omega), (by omega)⟩, by omega⟩
    ·
      unfold b_X12_noiseOf_51
      refine T_some ?_
      show ((0 ≤ (x5 + 1) ∧ (x5 + 1) ≤ 64) ∧ ((x4 = 100000000 ∨ (0 ≤ x4 ∧ x4 ≤ 14)))) ∧ (64 - (x5 + 1)).toNat < (64 - x5).toNat
      exact ⟨⟨(by omega), (by omega)⟩, by omega⟩
  ·
    refine T_some ?_
    show ((x4 = 100000000 ∨ (0 ≤ x4 ∧ x4 ≤ 14)))
    exact (by omega)
set_option maxRecDepth 20000 in
set_option maxHeartbeats 4000000 in
theorem t_X12_noiseOf (o : OO) (x1 : Int) (x2 : Int) (x3 : Int) (hB_o : BoxM o) (k0 : 0 ≤ x1 ∧ x1 ≤ 23) (k1 : 0 ≤ x2 ∧ x2 ≤ 63) (k2 : 0 ≤ x3 ∧ x3 ≤ 5) : T (s_X12_noiseOf o x1 x2 x3) (fun v => (inR v)) := by
  unfold s_X12_noiseOf
  unfold e_X12_noiseOf_8
  refine T_qB (tl_X12_noiseOf_8 o x1 x2 x3 100000000 0 hB_o (by omega) (by omega) (by omega) (by omega) (by omega)) (fun r4 hc_r4 hp5 => ?_)
  obtain ⟨x4_6, q_x4_6⟩ : ∃ q, q = r4 := ⟨_, rfl⟩
  subst q_x4_6
  replace hp5 : ((x4_6 = 100000000 ∨ (0 ≤ x4_6 ∧ x4_6 ≤ 14))) := hp5
  show T (b_X12_noiseOf_59 o x3 x4_6) _
  unfold b_X12_noiseOf_59
  refine T_qIn ⟨by omega, by omega⟩ ?_
  refine T_qNm (fun n2 e_n2 => ?_)
  have b_n2 : -9 ≤ n2 ∧ n2 ≤ 40 := by rw [e_n2]; exact bM_2 hB_o _
  refine T_qLt ⟨by omega, by omega⟩ ⟨by omega, by omega⟩ (fun h7 => ?_) (fun h7 => ?_)
  ·
    refine T_qIn ⟨by omega, by omega⟩ ?_
    refine T_qNm (fun n4 e_n4 => ?_)
    have b_n4 : -2147483648 ≤ n4 ∧ n4 ≤ 2147483647 := by rw [e_n4]; exact bM_3 hB_o _
    unfold b_X12_noiseOf_86
    refine T_some ?_
    show (inR n4)
    exact (by omega)
  ·
    unfold b_X12_noiseOf_86
    refine T_some ?_
    show (inR 0)
    exact (by omega)
set_option maxRecDepth 20000 in
set_option maxHeartbeats 4000000 in
theorem tl_X12_living_4 (o : OO) (x1 : Int) (i_x2 : Int) (i_x3 : Int) (hB_o : BoxM o) (k0 : inR x1) (v0 : 0 ≤ i_x2 ∧ i_x2 ≤ i_x3) (v1 : 0 ≤ i_x3 ∧ i_x3 ≤ o.1 0 27) : T (loopW (fun s => l_X12_living_4 o x1 s.1 s.2) (i_x2, i_x3)) (fun r => (0 ≤ r ∧ r ≤ o.1 0 27)) := by
  refine T_loop (fun s => (0 ≤ s.1 ∧ s.1 ≤ s.2) ∧ (0 ≤ s.2 ∧ s.2 ≤ o.1 0 27)) (fun s => (o.1 0 27 - s.2).toNat) (by exact ⟨v0, v1⟩) (fun s hs => ?_)
  obtain ⟨x2, x3⟩ := s
  replace hs : (0 ≤ x2 ∧ x2 ≤ x3) ∧ (0 ≤ x3 ∧ x3 ≤ o.1 0 27) := hs
  obtain ⟨w0, w1⟩ := hs
  have g0_27_o := bM_0_27 hB_o
  show T (l_X12_living_4 o x1 x2 x3) _
  unfold l_X12_living_4
  refine T_qLt ⟨by omega, by omega⟩ ⟨by omega, by omega⟩ (fun h1 => ?_) (fun h1 => ?_)
  ·
    refine T_qIn ⟨by omega, by omega⟩ ?_
    refine T_qNm (fun n3 e_n3 => ?_)
    have b_n3 : -9 ≤ n3 ∧ n3 ≤ 31 := by rw [e_n3]; exact bM_21 hB_o _
    refine T_qEq ⟨by omega, by omega⟩ ⟨by omega, by omega⟩ (fun h2 => ?_) (fun h2 => ?_)
    ·
      unfold b_X12_living_28
      refine T_qNm (fun n1 e_n1 => ?_)
      refine T_some ?_
      show ((0 ≤ n1 ∧ n1 ≤ (x3 + 1)) ∧ (0 ≤ (x3 + 1) ∧ (x3 + 1) ≤ o.1 0 27)) ∧ (o.1 0 27 - (x3 + 1)).toNat < (o.1 0 27 - x3).toNat
      exact ⟨⟨(by omega), (by omega)⟩, by omega⟩
    ·
      unfold b_X12_living_28
      refine T_qNm (fun n1 e_n1 => ?_)
      refine T_some ?_
      show ((0 ≤ n1 ∧ n1 ≤ (x3 + 1)) ∧ (0 ≤ (x3 + 1) ∧ (x3 + 1) ≤ o.1 0 27)) ∧ (o.1 0 27 - (x3 + 1)).toNat < (o.1 0 27 - x3).toNat
      exact ⟨⟨(by omega), (by omega)⟩, by omega⟩
  ·
    refine T_some ?_
    show (0 ≤ x2 ∧ x2 ≤ o.1 0 27)
    exact (by omega)
set_option maxRecDepth 20000 in
set_option maxHeartbeats 4000000 in
theorem t_X12_living (o : OO) (x1 : Int) (hB_o : BoxM o) (k0 : inR x1) : T (s_X12_living o x1) (fun v => (0 ≤ v ∧ v ≤ 40)) := by
  have g0_27_o := bM_0_27 hB_o
  unfold s_X12_living
  unfold e_X12_living_4
  refine T_qB (tl_X12_living_4 o x1 0 0 hB_o (by omega) (by omega) (by omega)) (fun r3 hc_r3 hp4 => ?_)
  obtain ⟨x2_5, q_x2_5⟩ : ∃ q, q = r3 := ⟨_, rfl⟩
  subst q_x2_5
  replace hp4 : (0 ≤ x2_5 ∧ x2_5 ≤ o.1 0 27) := hp4
  show T (b_X12_living_36 o x2_5) _
  unfold b_X12_living_36
  refine T_some ?_
  show (0 ≤ x2_5 ∧ x2_5 ≤ 40)
  exact (by omega)
set_option maxRecDepth 20000 in
set_option maxHeartbeats 4000000 in
theorem tl_X12_loud_13 (o : OO) (x1 : Int) (x2 : Int) (x3 : Int) (x4 : Int) (i_x5 : Int) (i_x6 : Int) (hB_o : BoxM o) (k0 : 0 ≤ x1 ∧ x1 ≤ 23) (k1 : 0 ≤ x2 ∧ x2 ≤ 5) (k2 : 0 ≤ x3 ∧ x3 ≤ 1) (k3 : 0 ≤ x4 ∧ x4 ≤ 9999) (v0 : 0 ≤ i_x6 ∧ i_x6 ≤ o.1 0 17) (v1 : 0 ≤ i_x5 ∧ i_x5 ≤ 40 * i_x6) : T (loopW (fun s => l_X12_loud_13 o x1 x2 x3 x4 s.1 s.2) (i_x5, i_x6)) (fun r => (0 ≤ r ∧ r ≤ 1280)) := by
  refine T_loop (fun s => (0 ≤ s.2 ∧ s.2 ≤ o.1 0 17) ∧ (0 ≤ s.1 ∧ s.1 ≤ 40 * s.2)) (fun s => (o.1 0 17 - s.2).toNat) (by exact ⟨v0, v1⟩) (fun s hs => ?_)
  obtain ⟨x5, x6⟩ := s
  replace hs : (0 ≤ x6 ∧ x6 ≤ o.1 0 17) ∧ (0 ≤ x5 ∧ x5 ≤ 40 * x6) := hs
  obtain ⟨w0, w1⟩ := hs
  have g0_17_o := bM_0_17 hB_o
  show T (l_X12_loud_13 o x1 x2 x3 x4 x5 x6) _
  unfold l_X12_loud_13
  refine T_qLt ⟨by omega, by omega⟩ ⟨by omega, by omega⟩ (fun h1 => ?_) (fun h1 => ?_)
  ·
    refine T_qIn ⟨by omega, by omega⟩ ?_
    refine T_qNm (fun n5 e_n5 => ?_)
    have b_n5 : 0 ≤ n5 ∧ n5 ≤ 2 := by rw [e_n5]; exact bM_14 hB_o _
    refine T_qEq ⟨by omega, by omega⟩ ⟨by decide, by decide⟩ (fun h2 => ?_) (fun h2 => ?_)
    ·
      refine T_qIn ⟨by omega, by omega⟩ ?_
      refine T_qNm (fun n7 e_n7 => ?_)
      have b_n7 : 0 ≤ n7 ∧ n7 ≤ 1 := by rw [e_n7]; exact bM_16 hB_o _
      refine T_qEq ⟨by omega, by omega⟩ ⟨by decide, by decide⟩ (fun h3 => ?_) (fun h3 => ?_)
      ·
        refine T_qIn ⟨by omega, by omega⟩ ?_
        refine T_qNm (fun n9 e_n9 => ?_)
        have b_n9 : 0 ≤ n9 ∧ n9 ≤ 63 := by rw [e_n9]; exact bM_13 hB_o _
        refine T_qB (t_X12_noiseOf o x1 n9 x2 hB_o (by omega) (by omega) (by omega)) (fun r10 hc_r10 hp4 => ?_)
        replace hp4 : (inR r10) := hp4
        refine T_qLt ⟨by omega, by omega⟩ ⟨by omega, by omega⟩ (fun h5 => ?_) (fun h5 => ?_)
        ·
          unfold b_X12_loud_65
          refine T_qEq ⟨by decide, by decide⟩ ⟨by decide, by decide⟩ (fun h6 => ?_) (fun h6 => ?_)
          ·
            unfold b_X12_loud_92
            refine T_qNm (fun n1 e_n1 => ?_)
            refine T_some ?_
            show ((0 ≤ (x6 + 1) ∧ (x6 + 1) ≤ o.1 0 17) ∧ (0 ≤ n1 ∧ n1 ≤ 40 * (x6 + 1))) ∧ (o.1 0 17 - (x6 + 1)).toNat < (o.1 0 17 - x6).toNat
            exact ⟨⟨(by omega), (by omega)⟩, by omega⟩
          ·
            refine T_qEq ⟨by omega, by omega⟩ ⟨by decide, by decide⟩ (fun h7 => ?_) (fun h7 => ?_)
            ·
              unfold b_X12_loud_92
              refine T_qNm (fun n1 e_n1 => ?_)
              refine T_some ?_
              show ((0 ≤ (x6 + 1) ∧ (x6 + 1) ≤ o.1 0 17) ∧ (0 ≤ n1 ∧ n1 ≤ 40 * (x6 + 1))) ∧ (o.1 0 17 - (x6 + 1)).toNat < (o.1 0 17 - x6).toNat
              exact ⟨⟨(by omega), (by omega)⟩, by omega⟩
            ·
              refine T_qB (t_X12_living o x6 hB_o (by omega)) (fun r2 hc_r2 hp8 => ?_)
              replace hp8 : (0 ≤ r2 ∧ r2 ≤ 40) := hp8
              unfold b_X12_loud_92
              refine T_qNm (fun n1 e_n1 => ?_)
              refine T_some ?_
              show ((0 ≤ (x6 + 1) ∧ (x6 + 1) ≤ o.1 0 17) ∧ (0 ≤ n1 ∧ n1 ≤ 40 * (x6 + 1))) ∧ (o.1 0 17 - (x6 + 1)).toNat < (o.1 0 17 - x6).toNat
              exact ⟨⟨(by omega), (by omega)⟩, by omega⟩
        ·
          unfold b_X12_loud_64
          unfold b_X12_loud_65
          refine T_qEq ⟨by decide, by decide⟩ ⟨by decide, by decide⟩ (fun h9 => ?_) (fun h9 => ?_)
          ·
            unfold b_X12_loud_92
            refine T_qNm (fun n1 e_n1 => ?_)
            refine T_some ?_
            show ((0 ≤ (x6 + 1) ∧ (x6 + 1) ≤ o.1 0 17) ∧ (0 ≤ n1 ∧ n1 ≤ 40 * (x6 + 1))) ∧ (o.1 0 17 - (x6 + 1)).toNat < (o.1 0 17 - x6).toNat
            exact ⟨⟨(by omega), (by omega)⟩, by omega⟩
          ·
            refine T_qEq ⟨by omega, by omega⟩ ⟨by decide, by decide⟩ (fun h10 => ?_) (fun h10 => ?_)
            ·
              unfold b_X12_loud_92
              refine T_qNm (fun n1 e_n1 => ?_)
              refine T_some ?_
              show ((0 ≤ (x6 + 1) ∧ (x6 + 1) ≤ o.1 0 17) ∧ (0 ≤ n1 ∧ n1 ≤ 40 * (x6 + 1))) ∧ (o.1 0 17 - (x6 + 1)).toNat < (o.1 0 17 - x6).toNat
              exact ⟨⟨(by omega), (by omega)⟩, by omega⟩
            ·
              refine T_qB (t_X12_living o x6 hB_o (by omega)) (fun r2 hc_r2 hp11 => ?_)
              replace hp11 : (0 ≤ r2 ∧ r2 ≤ 40) := hp11
              unfold b_X12_loud_92
              refine T_qNm (fun n1 e_n1 => ?_)
              refine T_some ?_
              show ((0 ≤ (x6 + 1) ∧ (x6 + 1) ≤ o.1 0 17) ∧ (0 ≤ n1 ∧ n1 ≤ 40 * (x6 + 1))) ∧ (o.1 0 17 - (x6 + 1)).toNat < (o.1 0 17 - x6).toNat
              exact ⟨⟨(by omega), (by omega)⟩, by omega⟩
      ·
        unfold b_X12_loud_64
        unfold b_X12_loud_65
        refine T_qEq ⟨by decide, by decide⟩ ⟨by decide, by decide⟩ (fun h12 => ?_) (fun h12 => ?_)
        ·
          unfold b_X12_loud_92
          refine T_qNm (fun n1 e_n1 => ?_)
          refine T_some ?_
          show ((0 ≤ (x6 + 1) ∧ (x6 + 1) ≤ o.1 0 17) ∧ (0 ≤ n1 ∧ n1 ≤ 40 * (x6 + 1))) ∧ (o.1 0 17 - (x6 + 1)).toNat < (o.1 0 17 - x6).toNat
          exact ⟨⟨(by omega), (by omega)⟩, by omega⟩
        ·
          refine T_qEq ⟨by omega, by omega⟩ ⟨by decide, by decide⟩ (fun h13 => ?_) (fun h13 => ?_)
          ·
            unfold b_X12_loud_92
            refine T_qNm (fun n1 e_n1 => ?_)
            refine T_some ?_
            show ((0 ≤ (x6 + 1) ∧ (x6 + 1) ≤ o.1 0 17) ∧ (0 ≤ n1 ∧ n1 ≤ 40 * (x6 + 1))) ∧ (o.1 0 17 - (x6 + 1)).toNat < (o.1 0 17 - x6).toNat
            exact ⟨⟨(by omega), (by omega)⟩, by omega⟩
          ·
            refine T_qB (t_X12_living o x6 hB_o (by omega)) (fun r2 hc_r2 hp14 => ?_)
            replace hp14 : (0 ≤ r2 ∧ r2 ≤ 40) := hp14
            unfold b_X12_loud_92
            refine T_qNm (fun n1 e_n1 => ?_)
            refine T_some ?_
            show ((0 ≤ (x6 + 1) ∧ (x6 + 1) ≤ o.1 0 17) ∧ (0 ≤ n1 ∧ n1 ≤ 40 * (x6 + 1))) ∧ (o.1 0 17 - (x6 + 1)).toNat < (o.1 0 17 - x6).toNat
            exact ⟨⟨(by omega), (by omega)⟩, by omega⟩
    ·
      unfold b_X12_loud_64
      unfold b_X12_loud_65
      refine T_qEq ⟨by decide, by decide⟩ ⟨by decide, by decide⟩ (fun h15 => ?_) (fun h15 => ?_)
      ·
        unfold b_X12_loud_92
        refine T_qNm (fun n1 e_n1 => ?_)
        refine T_some ?_
        show ((0 ≤ (x6 + 1) ∧ (x6 + 1) ≤ o.1 0 17) ∧ (0 ≤ n1 ∧ n1 ≤ 40 * (x6 + 1))) ∧ (o.1 0 17 - (x6 + 1)).toNat < (o.1 0 17 - x6).toNat
        exact ⟨⟨(by omega), (by omega)⟩, by omega⟩
      ·
        refine T_qEq ⟨by omega, by omega⟩ ⟨by decide, by decide⟩ (fun h16 => ?_) (fun h16 => ?_)
        ·
          unfold b_X12_loud_92
          refine T_qNm (fun n1 e_n1 => ?_)
          refine T_some ?_
          show ((0 ≤ (x6 + 1) ∧ (x6 + 1) ≤ o.1 0 17) ∧ (0 ≤ n1 ∧ n1 ≤ 40 * (x6 + 1))) ∧ (o.1 0 17 - (x6 + 1)).toNat < (o.1 0 17 - x6).toNat
          exact ⟨⟨(by omega), (by omega)⟩, by omega⟩
        ·
          refine T_qB (t_X12_living o x6 hB_o (by omega)) (fun r2 hc_r2 hp17 => ?_)
          replace hp17 : (0 ≤ r2 ∧ r2 ≤ 40) := hp17
          unfold b_X12_loud_92
          refine T_qNm (fun n1 e_n1 => ?_)
          refine T_some ?_
          show ((0 ≤ (x6 + 1) ∧ (x6 + 1) ≤ o.1 0 17) ∧ (0 ≤ n1 ∧ n1 ≤ 40 * (x6 + 1))) ∧ (o.1 0 17 - (x6 + 1)).toNat < (o.1 0 17 - x6).toNat
          exact ⟨⟨(by omega), (by omega)⟩, by omega⟩
  ·
    refine T_some ?_
    show (0 ≤ x5 ∧ x5 ≤ 1280)
    exact (by omega)
set_option maxRecDepth 20000 in
set_option maxHeartbeats 4000000 in
theorem t_X12_loud (o : OO) (x1 : Int) (x2 : Int) (x3 : Int) (hB_o : BoxM o) (k0 : 0 ≤ x1 ∧ x1 ≤ 23) (k1 : 0 ≤ x2 ∧ x2 ≤ 5) (k2 : 0 ≤ x3 ∧ x3 ≤ 1) : T (s_X12_loud o x1 x2 x3) (fun v => (0 ≤ v ∧ v ≤ 1280)) := by
  have g0_17_o := bM_0_17 hB_o
  unfold s_X12_loud
  refine T_qB (t_X12_nowInForce o 5 hB_o (by omega)) (fun r12 hc_r12 hp18 => ?_)
  replace hp18 : (0 ≤ r12 ∧ r12 ≤ 9999) := hp18
  unfold e_X12_loud_13
  refine T_qB (tl_X12_loud_13 o x1 x2 x3 r12 0 0 hB_o (by omega) (by omega) (by omega) (by omega) (by omega) (by omega)) (fun r19 hc_r19 hp20 => ?_)
  obtain ⟨x5_21, q_x5_21⟩ : ∃ q, q = r19 := ⟨_, rfl⟩
  subst q_x5_21
  replace hp20 : (0 ≤ x5_21 ∧ x5_21 ≤ 1280) := hp20
  show T (b_X12_loud_101 o x5_21) _
  unfold b_X12_loud_101
  refine T_some ?_
  show (0 ≤ x5_21 ∧ x5_21 ≤ 1280)
  exact (by omega)
set_option maxRecDepth 20000 in
set_option maxHeartbeats 4000000 in
theorem tl_X12_judged_13 (o : OO) (x1 : Int) (x2 : Int) (x3 : Int) (z5 : Int64) (i_x4 : Int) (i_x7 : Int) (hB_o : BoxM o) (k0 : 0 ≤ x1 ∧ x1 ≤ 23) (k1 : 0 ≤ x2 ∧ x2 ≤ 5) (k2 : 0 ≤ x3 ∧ x3 ≤ 5) (k3 : W4 o x2 4) (v0 : 0 ≤ i_x4 ∧ i_x4 ≤ i_x7) (v1 : 0 ≤ i_x7 ∧ i_x7 ≤ o.1 0 27) : T (loopW (fun s => l_X12_judged_13 o x1 x2 x3 z5 s.1 s.2) (i_x4, i_x7)) (fun r => (0 ≤ r ∧ r ≤ o.1 0 27)) := by
  refine T_loop (fun s => (0 ≤ s.1 ∧ s.1 ≤ s.2) ∧ (0 ≤ s.2 ∧ s.2 ≤ o.1 0 27)) (fun s => (o.1 0 27 - s.2).toNat) (by exact ⟨v0, v1⟩) (fun s hs => ?_)
  obtain ⟨x4, x7⟩ := s
  replace hs : (0 ≤ x4 ∧ x4 ≤ x7) ∧ (0 ≤ x7 ∧ x7 ≤ o.1 0 27) := hs
  obtain ⟨w0, w1⟩ := hs
  have g0_27_o := bM_0_27 hB_o
  show T (l_X12_judged_13 o x1 x2 x3 z5 x4 x7) _
  unfold l_X12_judged_13
  refine T_qLt ⟨by omega, by omega⟩ ⟨by omega, by omega⟩ (fun h1 => ?_) (fun h1 => ?_)
  ·
    refine T_qIn ⟨by omega, by omega⟩ ?_
    refine T_qNm (fun n18 e_n18 => ?_)
    have b_n18 : -9 ≤ n18 ∧ n18 ≤ 31 := by rw [e_n18]; exact bM_21 hB_o _
    refine T_qLt ⟨by omega, by omega⟩ ⟨by decide, by decide⟩ (fun h2 => ?_) (fun h2 => ?_)
    ·
      unfold b_X12_judged_58
      unfold b_X12_judged_59
      refine T_qNm (fun n16 e_n16 => ?_)
      refine T_some ?_
      show ((0 ≤ n16 ∧ n16 ≤ (x7 + 1)) ∧ (0 ≤ (x7 + 1) ∧ (x7 + 1) ≤ o.1 0 27)) ∧ (o.1 0 27 - (x7 + 1)).toNat < (o.1 0 27 - x7).toNat
      exact ⟨⟨(by omega), (by omega)⟩, by omega⟩
    ·
      refine T_qIn ⟨by omega, by omega⟩ ?_
      refine T_qNm (fun n20 e_n20 => ?_)
      have b_n20 : -9 ≤ n20 ∧ n20 ≤ 31 := by rw [e_n20]; exact bM_21 hB_o _
      refine T_qIn ⟨by omega, by omega⟩ ?_
      refine T_qNm (fun n22 e_n22 => ?_)
      have b_n22 : 0 ≤ n22 ∧ n22 ≤ 63 := by rw [e_n22]; exact bM_13 hB_o _
      refine T_qB (t_X12_has z5 n22 (by omega)) (fun r23 hc_r23 hp3 => ?_)
      replace hp3 : ((r23 = 1 ∧ bt z5 n22.toNat = true) ∨ (r23 = 0 ∧ bt z5 n22.toNat = false)) := hp3
      refine T_qEq ⟨by omega, by omega⟩ ⟨by decide, by decide⟩ (fun h4 => ?_) (fun h4 => ?_)
      ·
        unfold b_X12_judged_58
        unfold b_X12_judged_59
        refine T_qNm (fun n16 e_n16 => ?_)
        refine T_some ?_
        show ((0 ≤ n16 ∧ n16 ≤ (x7 + 1)) ∧ (0 ≤ (x7 + 1) ∧ (x7 + 1) ≤ o.1 0 27)) ∧ (o.1 0 27 - (x7 + 1)).toNat < (o.1 0 27 - x7).toNat
        exact ⟨⟨(by omega), (by omega)⟩, by omega⟩
      ·
        unfold b_X12_judged_59
        refine T_qNm (fun n16 e_n16 => ?_)
        refine T_some ?_
        show ((0 ≤ n16 ∧ n16 ≤ (x7 + 1)) ∧ (0 ≤ (x7 + 1) ∧ (x7 + 1) ≤ o.1 0 27)) ∧ (o.1 0 27 - (x7 + 1)).toNat < (o.1 0 27 - x7).toNat
        exact ⟨⟨(by omega), (by omega)⟩, by omega⟩
  ·
    refine T_some ?_
    show (0 ≤ x4 ∧ x4 ≤ o.1 0 27)
    exact (by omega)
set_option maxRecDepth 20000 in
set_option maxHeartbeats 4000000 in
theorem t_X12_judged (o : OO) (x1 : Int) (x2 : Int) (x3 : Int) (hB_o : BoxM o) (k0 : 0 ≤ x1 ∧ x1 ≤ 23) (k1 : 0 ≤ x2 ∧ x2 ≤ 5) (k2 : 0 ≤ x3 ∧ x3 ≤ 5) (k3 : W4 o x2 4) : T (s_X12_judged o x1 x2 x3) (fun v => (inR v)) := by
  have g0_27_o := bM_0_27 hB_o
  unfold s_X12_judged
  refine T_qB (t_X12_cellsOf o x1 hB_o (by omega)) (fun p25 hc_p25 hp5 => ?_)
  unfold e_X12_judged_13
  refine T_qB (tl_X12_judged_13 o x1 x2 x3 p25 0 0 hB_o (by omega) (by omega) (by omega) (by omega) (by omega) (by omega)) (fun r6 hc_r6 hp7 => ?_)
  obtain ⟨x4_8, q_x4_8⟩ : ∃ q, q = r6 := ⟨_, rfl⟩
  subst q_x4_8
  replace hp7 : (0 ≤ x4_8 ∧ x4_8 ≤ o.1 0 27) := hp7
  show T (b_X12_judged_68 o x1 x2 x3 x4_8) _
  unfold b_X12_judged_68
  refine T_qNm (fun n1 e_n1 => ?_)
  refine T_qIn ⟨by omega, by omega⟩ ?_
  refine T_qNm (fun n3 e_n3 => ?_)
  have b_n3 : -2147483648 ≤ n3 ∧ n3 ≤ 2147483647 := by rw [e_n3]; exact bM_3 hB_o _
  refine T_qIn ⟨by omega, by omega⟩ ?_
  refine T_qNm (fun n5 e_n5 => ?_)
  have b_n5 : 0 ≤ n5 ∧ n5 ≤ 1000000 := by rw [e_n5]; exact bM_28 hB_o _
  refine T_qIn ⟨by omega, by omega⟩ ?_
  refine T_qNm (fun n7 e_n7 => ?_)
  have b_n7 : -2147483648 ≤ n7 ∧ n7 ≤ 2147483647 := by rw [e_n7]; exact bM_3 hB_o _
  refine T_qIn ⟨by omega, by omega⟩ ?_
  refine T_qNm (fun n9 e_n9 => ?_)
  have b_n9 : -2147483648 ≤ n9 ∧ n9 ≤ 2147483647 := by rw [e_n9]; exact bM_3 hB_o _
  refine T_qB (t_X12_parks o x1 hB_o (by omega)) (fun r10 hc_r10 hp9 => ?_)
  replace hp9 : (0 ≤ r10 ∧ r10 ≤ 64) := hp9
  refine T_qIn ⟨by omega, by omega⟩ ?_
  refine T_qNm (fun n13 e_n13 => ?_)
  have b_n13 : -2147483648 ≤ n13 ∧ n13 ≤ 2147483647 := by rw [e_n13]; exact bM_3 hB_o _
  refine T_qB (t_X12_loud o x1 x3 0 hB_o (by omega) (by omega) (by omega)) (fun r14 hc_r14 hp10 => ?_)
  replace hp10 : (0 ≤ r14 ∧ r14 ≤ 1280) := hp10
  have q0 : 0 ≤ n3 ∧ n3 ≤ 100 := by rw [e_n3, e_n1]; have := k3 0 (by decide) (by decide); rwa [Int.add_zero] at this
  have q1 : 0 ≤ n7 ∧ n7 ≤ 100 := by rw [e_n7, e_n1]; exact k3 1 (by decide) (by decide)
  have q2 : 0 ≤ n9 ∧ n9 ≤ 100 := by rw [e_n9, e_n1]; exact k3 2 (by decide) (by decide)
  have q3 : 0 ≤ n13 ∧ n13 ≤ 100 := by rw [e_n13, e_n1]; exact k3 3 (by decide) (by decide)
  have m0 := mul_rng (a := n3) (b := n5) (A := 100) (B := 1000000) (by omega) (by omega) (by omega) (by omega)
  have m1 := mul_rng (a := n7) (b := x4_8) (A := 100) (B := 40) (by omega) (by omega) (by omega) (by omega)
  have m2 := mul_rng (a := n9) (b := r10) (A := 100) (B := 64) (by omega) (by omega) (by omega) (by omega)
  have m3 := mul_rng (a := n13) (b := r14) (A := 100) (B := 1280) (by omega) (by omega) (by omega) (by omega)
  refine T_some ?_
  show (inR ((((n3 * n5) + (n7 * x4_8)) + (n9 * r10)) + (n13 * r14)))
  exact (by omega)
set_option maxRecDepth 20000 in
set_option maxHeartbeats 4000000 in
theorem tl_X12_best_39 (o : OO) (x1 : Int) (x2 : Int) (i_x4 : Int) (i_x5 : Int) (i_x6 : Int) (hB_o : BoxM o) (k0 : inR x1) (k1 : inR x2) (k2 : 0 ≤ x1 ∧ x1 ≤ 5) (k3 : 0 ≤ x2 ∧ x2 ≤ 5) (k4 : W4 o x1 4) (v0 : 0 ≤ i_x6 ∧ i_x6 ≤ 24 ∧ i_x6 ≤ o.1 0 32) (v1 : inR i_x5) (v2 : -9 ≤ i_x4 ∧ i_x4 ≤ 23) : T (loopW (fun s => l_X12_best_39 o x1 x2 s.1 s.2.1 s.2.2) (i_x4, i_x5, i_x6)) (fun r => (inR r.2) ∧ (-9 ≤ r.1 ∧ r.1 ≤ 23)) := by
  refine T_loop (fun s => (0 ≤ s.2.2 ∧ s.2.2 ≤ 24 ∧ s.2.2 ≤ o.1 0 32) ∧ (inR s.2.1) ∧ (-9 ≤ s.1 ∧ s.1 ≤ 23)) (fun s => (o.1 0 32 - s.2.2).toNat) (by exact ⟨v0, v1, v2⟩) (fun s hs => ?_)
  obtain ⟨x4, x5, x6⟩ := s
  replace hs : (0 ≤ x6 ∧ x6 ≤ 24 ∧ x6 ≤ o.1 0 32) ∧ (inR x5) ∧ (-9 ≤ x4 ∧ x4 ≤ 23) := hs
  obtain ⟨w0, w1, w2⟩ := hs
  have g0_32_o := bM_0_32 hB_o
  show T (l_X12_best_39 o x1 x2 x4 x5 x6) _
  unfold l_X12_best_39
  refine T_qLt ⟨by omega, by omega⟩ ⟨by omega, by omega⟩ (fun h1 => ?_) (fun h1 => ?_)
  ·
    refine T_qIn ⟨by omega, by omega⟩ ?_
    refine T_qNm (fun n7 e_n7 => ?_)
    have b_n7 : 0 ≤ n7 ∧ n7 ≤ 6 := by rw [e_n7]; exact bM_25 hB_o _
    refine T_qEq ⟨by omega, by omega⟩ ⟨by decide, by decide⟩ (fun h2 => ?_) (fun h2 => ?_)
    ·
      refine T_qB (t_X12_judged o x6 x1 x2 hB_o (by omega) (by omega) (by omega) (by first | exact hw9.elim (fun q => absurd q (by omega)) (fun q => q) | assumption)) (fun r8 hc_r8 hp3 => ?_)
      replace hp3 : (inR r8) := hp3
      unfold b_X12_best_71
      refine T_qIn ⟨by omega, by omega⟩ ?_
      refine T_qNm (fun n5 e_n5 => ?_)
      have b_n5 : 0 ≤ n5 ∧ n5 ≤ 6 := by rw [e_n5]; exact bM_25 hB_o _
      refine T_qEq ⟨by omega, by omega⟩ ⟨by decide, by decide⟩ (fun h4 => ?_) (fun h4 => ?_)
      ·
        refine T_qLt ⟨by omega, by omega⟩ ⟨by decide, by decide⟩ (fun h5 => ?_) (fun h5 => ?_)
        ·
          unfold b_X12_best_96
          unfold b_X12_best_104
          refine T_some ?_
          show ((0 ≤ (x6 + 1) ∧ (x6 + 1) ≤ 24 ∧ (x6 + 1) ≤ o.1 0 32) ∧ (inR r8) ∧ (-9 ≤ x6 ∧ x6 ≤ 23)) ∧ (o.1 0 32 - (x6 + 1)).toNat < (o.1 0 32 - x6).toNat
          exact ⟨⟨(by omega), (by omega), (by omega)⟩, by omega⟩
        ·
          refine T_qLt ⟨by omega, by omega⟩ ⟨by omega, by omega⟩ (fun h6 => ?_) (fun h6 => ?_)
          ·
            unfold b_X12_best_96
            unfold b_X12_best_104
            refine T_some ?_
            show ((0 ≤ (x6 + 1) ∧ (x6 + 1) ≤ 24 ∧ (x6 + 1) ≤ o.1 0 32) ∧ (inR r8) ∧ (-9 ≤ x6 ∧ x6 ≤ 23)) ∧ (o.1 0 32 - (x6 + 1)).toNat < (o.1 0 32 - x6).toNat
            exact ⟨⟨(by omega), (by omega), (by omega)⟩, by omega⟩
          ·
            unfold b_X12_best_104
            refine T_some ?_
            show ((0 ≤ (x6 + 1) ∧ (x6 + 1) ≤ 24 ∧ (x6 + 1) ≤ o.1 0 32) ∧ (inR x5) ∧ (-9 ≤ x4 ∧ x4 ≤ 23)) ∧ (o.1 0 32 - (x6 + 1)).toNat < (o.1 0 32 - x6).toNat
            exact ⟨⟨(by omega), (by omega), (by omega)⟩, by omega⟩
      ·
        unfold b_X12_best_104
        refine T_some ?_
        show ((0 ≤ (x6 + 1) ∧ (x6 + 1) ≤ 24 ∧ (x6 + 1) ≤ o.1 0 32) ∧ (inR x5) ∧ (-9 ≤ x4 ∧ x4 ≤ 23)) ∧ (o.1 0 32 - (x6 + 1)).toNat < (o.1 0 32 - x6).toNat
        exact ⟨⟨(by omega), (by omega), (by omega)⟩, by omega⟩
    ·
      unfold b_X12_best_71
      refine T_qIn ⟨by omega, by omega⟩ ?_
      refine T_qNm (fun n5 e_n5 => ?_)
      have b_n5 : 0 ≤ n5 ∧ n5 ≤ 6 := by rw [e_n5]; exact bM_25 hB_o _
      refine T_qEq ⟨by omega, by omega⟩ ⟨by decide, by decide⟩ (fun h7 => ?_) (fun h7 => ?_)
      ·
        refine T_qLt ⟨by omega, by omega⟩ ⟨by decide, by decide⟩ (fun h8 => ?_) (fun h8 => ?_)
        ·
          unfold b_X12_best_96
          unfold b_X12_best_104
          refine T_some ?_
          show ((0 ≤ (x6 + 1) ∧ (x6 + 1) ≤ 24 ∧ (x6 + 1) ≤ o.1 0 32) ∧ (inR 0) ∧ (-9 ≤ x6 ∧ x6 ≤ 23)) ∧ (o.1 0 32 - (x6 + 1)).toNat < (o.1 0 32 - x6).toNat
          exact ⟨⟨(by omega), (by omega), (by omega)⟩, by omega⟩
        ·
          refine T_qLt ⟨by decide, by decide⟩ ⟨by omega, by omega⟩ (fun h9 => ?_) (fun h9 => ?_)
          ·
            unfold b_X12_best_96
            unfold b_X12_best_104
            refine T_some ?_
            show ((0 ≤ (x6 + 1) ∧ (x6 + 1) ≤ 24 ∧ (x6 + 1) ≤ o.1 0 32) ∧ (inR 0) ∧ (-9 ≤ x6 ∧ x6 ≤ 23)) ∧ (o.1 0 32 - (x6 + 1)).toNat < (o.1 0 32 - x6).toNat
            exact ⟨⟨(by omega), (by omega), (by omega)⟩, by omega⟩
          ·
            unfold b_X12_best_104
            refine T_some ?_
            show ((0 ≤ (x6 + 1) ∧ (x6 + 1) ≤ 24 ∧ (x6 + 1) ≤ o.1 0 32) ∧ (inR x5) ∧ (-9 ≤ x4 ∧ x4 ≤ 23)) ∧ (o.1 0 32 - (x6 + 1)).toNat < (o.1 0 32 - x6).toNat
            exact ⟨⟨(by omega), (by omega), (by omega)⟩, by omega⟩
      ·
        unfold b_X12_best_104
        refine T_some ?_
        show ((0 ≤ (x6 + 1) ∧ (x6 + 1) ≤ 24 ∧ (x6 + 1) ≤ o.1 0 32) ∧ (inR x5) ∧ (-9 ≤ x4 ∧ x4 ≤ 23)) ∧ (o.1 0 32 - (x6 + 1)).toNat < (o.1 0 32 - x6).toNat
        exact ⟨⟨(by omega), (by omega), (by omega)⟩, by omega⟩
  ·
    refine T_some ?_
    show (inR x5) ∧ (-9 ≤ x4 ∧ x4 ≤ 23)
    exact ⟨(by omega), (by omega)⟩
set_option maxRecDepth 20000 in
set_option maxHeartbeats 4000000 in
theorem t_X12_best (o : OO) (x1 : Int) (x2 : Int) (hB_o : BoxM o) (k0 : inR x1) (k1 : inR x2) : T (s_X12_best o x1 x2) (fun v => BoxM v.2 ∧ (Fr [(0, 0), (0, 2), (1, 9999)] o v.2)) := by
  have fr_o : Fr [(0, 0), (0, 2), (1, 9999)] o o := Fr.rf
  have g0_32_o := bM_0_32 hB_o
  unfold s_X12_best
  refine T_qB (t_X12_isRow x1 (by omega)) (fun r10 hc_r10 hp10 => ?_)
  replace hp10 : ((r10 = 1 ∧ 0 ≤ x1 ∧ x1 ≤ 5) ∨ (r10 = 0 ∧ (x1 < 0 ∨ 5 < x1))) := hp10
  refine T_qEq ⟨by omega, by omega⟩ ⟨by decide, by decide⟩ (fun h11 => ?_) (fun h11 => ?_)
  ·
    unfold b_X12_best_14
    refine T_some ?_
    show BoxM o ∧ (Fr [(0, 0), (0, 2), (1, 9999)] o o)
    exact ⟨hB_o, fr_o⟩
  ·
    refine T_qB (t_X12_isRow x2 (by omega)) (fun r12 hc_r12 hp12 => ?_)
    replace hp12 : ((r12 = 1 ∧ 0 ≤ x2 ∧ x2 ≤ 5) ∨ (r12 = 0 ∧ (x2 < 0 ∨ 5 < x2))) := hp12
    refine T_qEq ⟨by omega, by omega⟩ ⟨by decide, by decide⟩ (fun h13 => ?_) (fun h13 => ?_)
    ·
      unfold b_X12_best_14
      refine T_some ?_
      show BoxM o ∧ (Fr [(0, 0), (0, 2), (1, 9999)] o o)
      exact ⟨hB_o, fr_o⟩
    ·
      refine T_qB2 (t_X12_askedWeights o x1 x2 hB_o (by omega) (by omega)) (fun r14 o16 hc_r14 hp14 => ?_)
      replace hp14 : BoxM o16 ∧ (Fr [(0, 0), (1, 9999)] o o16) ∧ ((r14 = 0 ∧ W4 o16 x1 4) ∨ (r14 < 0 ∧ inR r14)) := hp14
      obtain ⟨hB_o16, fc_o16, hp14⟩ := hp14
      have fr_o16 : Fr [(0, 0), (0, 2), (1, 9999)] o o16 := Fr.tr fr_o fc_o16 rfl
      have g0_32_o16 : o16.1 0 32 = o.1 0 32 := fc_o16.1 0 32 rfl
      have hw9 : r14 < 0 ∨ W4 o16 x1 4 := hp14.elim (fun q => Or.inr q.2) (fun q => Or.inl q.1)
      refine T_qLt ⟨by omega, by omega⟩ ⟨by decide, by decide⟩ (fun h15 => ?_) (fun h15 => ?_)
      ·
        refine T_some ?_
        show BoxM o16 ∧ (Fr [(0, 0), (0, 2), (1, 9999)] o o16)
        exact ⟨hB_o16, fr_o16⟩
      ·
        unfold e_X12_best_39
        refine T_qB (tl_X12_best_39 o16 x1 x2 (-9) 0 0 hB_o16 (by omega) (by omega) (by omega) (by omega) (by first | exact hw9.elim (fun q => absurd q (by omega)) (fun q => q) | assumption) (by omega) (by omega) (by omega)) (fun r16 hc_r16 hp17 => ?_)
        obtain ⟨x4_18, x5_19⟩ := r16
        replace hp17 : (inR x5_19) ∧ (-9 ≤ x4_18 ∧ x4_18 ≤ 23) := hp17
        have hps_hp17 := hp17
        obtain ⟨hp17_0, hp17_1⟩ := hps_hp17
        replace hp17 := hid hp17
        show T (b_X12_best_110 o16 x4_18 x5_19) _
        unfold b_X12_best_110
        refine T_qLt ⟨by omega, by omega⟩ ⟨by decide, by decide⟩ (fun h20 => ?_) (fun h20 => ?_)
        ·
          unfold b_X12_best_128
          refine T_some ?_
          show BoxM o16 ∧ (Fr [(0, 0), (0, 2), (1, 9999)] o o16)
          exact ⟨hB_o16, fr_o16⟩
        ·
          refine T_qB2 (t_X12_ask o16 x5_19 x4_18 hB_o16) (fun r1 o3 hc_r1 hp21 => ?_)
          replace hp21 : BoxM o3 ∧ (Fr [(0, 2)] o16 o3) ∧ (r1 = x4_18) := hp21
          obtain ⟨hB_o3, fc_o3, hp21⟩ := hp21
          have fr_o3 : Fr [(0, 0), (0, 2), (1, 9999)] o o3 := Fr.tr fr_o16 fc_o3 rfl
          have g0_32_o3 : o3.1 0 32 = o16.1 0 32 := fc_o3.1 0 32 rfl
          unfold b_X12_best_128
          refine T_some ?_
          show BoxM o3 ∧ (Fr [(0, 0), (0, 2), (1, 9999)] o o3)
          exact ⟨hB_o3, fr_o3⟩
set_option maxRecDepth 20000 in
set_option maxHeartbeats 4000000 in
theorem t_X12_isCell (x0 : Int) (k0 : inR x0) : T (s_X12_isCell x0) (fun v => ((v = 1 ∧ 0 ≤ x0 ∧ x0 ≤ 63) ∨ (v = 0 ∧ (x0 < 0 ∨ 63 < x0)))) := by
  unfold s_X12_isCell
  refine T_qB (t_X12_in x0 0 63 (by omega) (by omega) (by omega)) (fun r1 hc_r1 hp1 => ?_)
  replace hp1 : ((r1 = 1 ∧ 0 ≤ x0 ∧ x0 ≤ 63) ∨ (r1 = 0 ∧ (x0 < 0 ∨ 63 < x0))) := hp1
  refine T_qZ (by omega) ?_
  refine T_some ?_
  show ((r1 = 1 ∧ 0 ≤ x0 ∧ x0 ≤ 63) ∨ (r1 = 0 ∧ (x0 < 0 ∨ 63 < x0)))
  exact (by omega)
set_option maxRecDepth 20000 in
set_option maxHeartbeats 4000000 in
theorem t_X12_isWorth (x0 : Int) (k0 : inR x0) : T (s_X12_isWorth x0) (fun v => ((v = 1 ∧ 1 ≤ x0 ∧ x0 ≤ 100000) ∨ (v = 0 ∧ (x0 < 1 ∨ 100000 < x0)))) := by
  unfold s_X12_isWorth
  refine T_qB (t_X12_in x0 1 100000 (by omega) (by omega) (by omega)) (fun r1 hc_r1 hp1 => ?_)
  replace hp1 : ((r1 = 1 ∧ 1 ≤ x0 ∧ x0 ≤ 100000) ∨ (r1 = 0 ∧ (x0 < 1 ∨ 100000 < x0))) := hp1
  refine T_qZ (by omega) ?_
  refine T_some ?_
  show ((r1 = 1 ∧ 1 ≤ x0 ∧ x0 ≤ 100000) ∨ (r1 = 0 ∧ (x0 < 1 ∨ 100000 < x0)))
  exact (by omega)
set_option maxRecDepth 20000 in
set_option maxHeartbeats 4000000 in
theorem tl_X12_on_5 (o : OO) (x1 : Int) (i_x2 : Int) (i_x3 : Int) (hB_o : BoxM o) (k0 : inR x1) (v0 : 0 ≤ i_x3 ∧ i_x3 ≤ o.1 0 17) (v1 : (i_x2 = -9 ∨ 0 ≤ i_x2) ∧ i_x2 < o.1 0 17) : T (loopW (fun s => l_X12_on_5 o x1 s.1 s.2) (i_x2, i_x3)) (fun r => ((r = -9 ∨ 0 ≤ r) ∧ r < o.1 0 17)) := by
  refine T_loop (fun s => (0 ≤ s.2 ∧ s.2 ≤ o.1 0 17) ∧ ((s.1 = -9 ∨ 0 ≤ s.1) ∧ s.1 < o.1 0 17)) (fun s => (o.1 0 17 - s.2).toNat) (by exact ⟨v0, v1⟩) (fun s hs => ?_)
  obtain ⟨x2, x3⟩ := s
  replace hs : (0 ≤ x3 ∧ x3 ≤ o.1 0 17) ∧ ((x2 = -9 ∨ 0 ≤ x2) ∧ x2 < o.1 0 17) := hs
  obtain ⟨w0, w1⟩ := hs
  have g0_17_o := bM_0_17 hB_o
  show T (l_X12_on_5 o x1 x2 x3) _
  unfold l_X12_on_5
  refine T_qLt ⟨by omega, by omega⟩ ⟨by omega, by omega⟩ (fun h1 => ?_) (fun h1 => ?_)
  ·
    refine T_qIn ⟨by omega, by omega⟩ ?_
    refine T_qNm (fun n2 e_n2 => ?_)
    have b_n2 : 0 ≤ n2 ∧ n2 ≤ 63 := by rw [e_n2]; exact bM_13 hB_o _
    refine T_qEq ⟨by omega, by omega⟩ ⟨by omega, by omega⟩ (fun h2 => ?_) (fun h2 => ?_)
    ·
      refine T_qIn ⟨by omega, by omega⟩ ?_
      refine T_qNm (fun n4 e_n4 => ?_)
      have b_n4 : 0 ≤ n4 ∧ n4 ≤ 1 := by rw [e_n4]; exact bM_16 hB_o _
      refine T_qEq ⟨by omega, by omega⟩ ⟨by decide, by decide⟩ (fun h3 => ?_) (fun h3 => ?_)
      ·
        unfold b_X12_on_37
        refine T_some ?_
        show ((0 ≤ (x3 + 1) ∧ (x3 + 1) ≤ o.1 0 17) ∧ ((x3 = -9 ∨ 0 ≤ x3) ∧ x3 < o.1 0 17)) ∧ (o.1 0 17 - (x3 + 1)).toNat < (o.1 0 17 - x3).toNat
        exact ⟨⟨(by omega), (by omega)⟩, by omega⟩
      ·
        unfold b_X12_on_36
        unfold b_X12_on_37
        refine T_some ?_
        show ((0 ≤ (x3 + 1) ∧ (x3 + 1) ≤ o.1 0 17) ∧ ((x2 = -9 ∨ 0 ≤ x2) ∧ x2 < o.1 0 17)) ∧ (o.1 0 17 - (x3 + 1)).toNat < (o.1 0 17 - x3).toNat
        exact ⟨⟨(by omega), (by omega)⟩, by omega⟩
    ·
      unfold b_X12_on_36
      unfold b_X12_on_37
      refine T_some ?_
      show ((0 ≤ (x3 + 1) ∧ (x3 + 1) ≤ o.1 0 17) ∧ ((x2 = -9 ∨ 0 ≤ x2) ∧ x2 < o.1 0 17)) ∧ (o.1 0 17 - (x3 + 1)).toNat < (o.1 0 17 - x3).toNat
      exact ⟨⟨(by omega), (by omega)⟩, by omega⟩
  ·
    refine T_some ?_
    show ((x2 = -9 ∨ 0 ≤ x2) ∧ x2 < o.1 0 17)
    exact (by omega)
set_option maxRecDepth 20000 in
set_option maxHeartbeats 4000000 in
theorem t_X12_on (o : OO) (x1 : Int) (hB_o : BoxM o) (k0 : inR x1) : T (s_X12_on o x1) (fun v => ((v = -9 ∨ 0 ≤ v) ∧ v < o.1 0 17)) := by
  have g0_17_o := bM_0_17 hB_o
  unfold s_X12_on
  unfold e_X12_on_5
  refine T_qB (tl_X12_on_5 o x1 (-9) 0 hB_o (by omega) (by omega) (by omega)) (fun r4 hc_r4 hp5 => ?_)
  obtain ⟨x2_6, q_x2_6⟩ : ∃ q, q = r4 := ⟨_, rfl⟩
  subst q_x2_6
  replace hp5 : ((x2_6 = -9 ∨ 0 ≤ x2_6) ∧ x2_6 < o.1 0 17) := hp5
  show T (b_X12_on_44 o x2_6) _
  unfold b_X12_on_44
  refine T_some ?_
  show ((x2_6 = -9 ∨ 0 ≤ x2_6) ∧ x2_6 < o.1 0 17)
  exact (by omega)
set_option maxRecDepth 20000 in
set_option maxHeartbeats 4000000 in
theorem t_X12_tell (o : OO) (x1 : Int) (x2 : Int) (hB_o : BoxM o) (k0 : 0 ≤ x1 ∧ x1 ≤ 31) (k1 : 0 ≤ x2 ∧ x2 ≤ 100000) (k2 : o.1 0 23 ≤ 99) : T (s_X12_tell o x1 x2) (fun v => BoxM v ∧ (Fr [(0, 23), (18, 9999), (19, 9999), (20, 9999)] o v) ∧ (v.1 0 23 = o.1 0 23 + 1) ∧ (HT o → HT v) ∧ (v.1 18 (o.1 0 23).toNat = x1)) := by
  have fr_o : Fr [(0, 23), (18, 9999), (19, 9999), (20, 9999)] o o := Fr.rf
  have g0_23_o := bM_0_23 hB_o
  have g0_4_o := bM_0_4 hB_o
  unfold s_X12_tell
  refine T_qIn ⟨by omega, by omega⟩ ?_
  refine T_qNm (fun o2 e_o2 => ?_)
  have hB_o2 : BoxM o2 := by rw [e_o2]; exact Box.s1 hB_o (show 0 ≤ x1 ∧ x1 ≤ 31 from ⟨by omega, by omega⟩)
  have fr_o2 : Fr [(0, 23), (18, 9999), (19, 9999), (20, 9999)] o o2 := by rw [e_o2]; exact Fr.s1 fr_o rfl
  have g0_23_o2 : o2.1 0 23 = o.1 0 23 := by rw [e_o2]; rfl
  have g0_4_o2 : o2.1 0 4 = o.1 0 4 := by rw [e_o2]; rfl
  refine T_qIn ⟨by omega, by omega⟩ ?_
  refine T_qNm (fun o4 e_o4 => ?_)
  have hB_o4 : BoxM o4 := by rw [e_o4]; exact Box.s1 hB_o2 (show 0 ≤ (o2.1 0 4) ∧ (o2.1 0 4) ≤ 999 from ⟨by omega, by omega⟩)
  have fr_o4 : Fr [(0, 23), (18, 9999), (19, 9999), (20, 9999)] o o4 := by rw [e_o4]; exact Fr.s1 fr_o2 rfl
  have g0_23_o4 : o4.1 0 23 = o2.1 0 23 := by rw [e_o4]; rfl
  have g0_4_o4 : o4.1 0 4 = o2.1 0 4 := by rw [e_o4]; rfl
  refine T_qIn ⟨by omega, by omega⟩ ?_
  refine T_qNm (fun o6 e_o6 => ?_)
  have hB_o6 : BoxM o6 := by rw [e_o6]; exact Box.s1 hB_o4 (show 0 ≤ x2 ∧ x2 ≤ 100000 from ⟨by omega, by omega⟩)
  have fr_o6 : Fr [(0, 23), (18, 9999), (19, 9999), (20, 9999)] o o6 := by rw [e_o6]; exact Fr.s1 fr_o4 rfl
  have g0_23_o6 : o6.1 0 23 = o4.1 0 23 := by rw [e_o6]; rfl
  have g0_4_o6 : o6.1 0 4 = o4.1 0 4 := by rw [e_o6]; rfl
  refine T_qNm (fun o7 e_o7 => ?_)
  have hB_o7 : BoxM o7 := by rw [e_o7]; exact Box.s1 hB_o6 (show 0 ≤ ((o6.1 0 23) + 1) ∧ ((o6.1 0 23) + 1) ≤ 100 from ⟨by omega, by omega⟩)
  have fr_o7 : Fr [(0, 23), (18, 9999), (19, 9999), (20, 9999)] o o7 := by rw [e_o7]; exact Fr.s1 fr_o6 rfl
  have g0_23_o7 : o7.1 0 23 = ((o6.1 0 23) + 1) := by rw [e_o7]; rfl
  have g0_4_o7 : o7.1 0 4 = o6.1 0 4 := by rw [e_o7]; rfl
  refine T_some ?_
  show BoxM o7 ∧ (Fr [(0, 23), (18, 9999), (19, 9999), (20, 9999)] o o7) ∧ (o7.1 0 23 = o.1 0 23 + 1) ∧ (HT o → HT o7) ∧ (o7.1 18 (o.1 0 23).toNat = x1)
  exact ⟨hB_o7, fr_o7, (by omega), (fun hh => HT_tell hh (by rw [e_o7, e_o6, e_o4, e_o2]; rfl) (by rw [e_o7, e_o6, e_o4, e_o2]; rfl) (fun k hk => by rw [e_o7, e_o6, e_o4, e_o2]; show (if k = (o.1 0 23).toNat then x1 else o.1 18 k) = o.1 18 k; rw [if_neg (by omega)])), (by rw [e_o7, e_o6, e_o4, e_o2]; show (if (o.1 0 23).toNat = (o.1 0 23).toNat then x1 else o.1 18 (o.1 0 23).toNat) = x1; rw [if_pos rfl])⟩
set_option maxRecDepth 20000 in
set_option maxHeartbeats 4000000 in
theorem t_X12_building (o : OO) (x1 : Int) (x2 : Int) (x3 : Int) (x4 : Int) (hB_o : BoxM o) (k0 : inR x1) (k1 : inR x2) (k2 : inR x3) (k3 : inR x4) : T (s_X12_building o x1 x2 x3 x4) (fun v => BoxM v.2 ∧ (Fr [(0, 17), (0, 23), (13, 9999), (14, 9999), (15, 9999), (17, 9999), (18, 9999), (19, 9999), (20, 9999)] o v.2) ∧ (inR v.1) ∧ (HT o → HT v.2)) := by
  have fr_o : Fr [(0, 17), (0, 23), (13, 9999), (14, 9999), (15, 9999), (17, 9999), (18, 9999), (19, 9999), (20, 9999)] o o := Fr.rf
  have g0_17_o := bM_0_17 hB_o
  have g0_23_o := bM_0_23 hB_o
  unfold s_X12_building
  refine T_qB (t_X12_isCell x1 (by omega)) (fun r1 hc_r1 hp1 => ?_)
  replace hp1 : ((r1 = 1 ∧ 0 ≤ x1 ∧ x1 ≤ 63) ∨ (r1 = 0 ∧ (x1 < 0 ∨ 63 < x1))) := hp1
  refine T_qEq ⟨by omega, by omega⟩ ⟨by decide, by decide⟩ (fun h2 => ?_) (fun h2 => ?_)
  ·
    unfold b_X12_building_34
    refine T_some ?_
    show BoxM o ∧ (Fr [(0, 17), (0, 23), (13, 9999), (14, 9999), (15, 9999), (17, 9999), (18, 9999), (19, 9999), (20, 9999)] o o) ∧ (inR (-1)) ∧ (HT o → HT o)
    exact ⟨hB_o, fr_o, (by omega), (by first | exact (fun h => h) | assumption | omega)⟩
  ·
    refine T_qB (t_X12_in x2 0 2 (by omega) (by omega) (by omega)) (fun r3 hc_r3 hp3 => ?_)
    replace hp3 : ((r3 = 1 ∧ 0 ≤ x2 ∧ x2 ≤ 2) ∨ (r3 = 0 ∧ (x2 < 0 ∨ 2 < x2))) := hp3
    refine T_qEq ⟨by omega, by omega⟩ ⟨by decide, by decide⟩ (fun h4 => ?_) (fun h4 => ?_)
    ·
      unfold b_X12_building_34
      refine T_some ?_
      show BoxM o ∧ (Fr [(0, 17), (0, 23), (13, 9999), (14, 9999), (15, 9999), (17, 9999), (18, 9999), (19, 9999), (20, 9999)] o o) ∧ (inR (-1)) ∧ (HT o → HT o)
      exact ⟨hB_o, fr_o, (by omega), (by first | exact (fun h => h) | assumption | omega)⟩
    ·
      refine T_qB (t_X12_in x3 0 20 (by omega) (by omega) (by omega)) (fun r5 hc_r5 hp5 => ?_)
      replace hp5 : ((r5 = 1 ∧ 0 ≤ x3 ∧ x3 ≤ 20) ∨ (r5 = 0 ∧ (x3 < 0 ∨ 20 < x3))) := hp5
      refine T_qEq ⟨by omega, by omega⟩ ⟨by decide, by decide⟩ (fun h6 => ?_) (fun h6 => ?_)
      ·
        unfold b_X12_building_34
        refine T_some ?_
        show BoxM o ∧ (Fr [(0, 17), (0, 23), (13, 9999), (14, 9999), (15, 9999), (17, 9999), (18, 9999), (19, 9999), (20, 9999)] o o) ∧ (inR (-1)) ∧ (HT o → HT o)
        exact ⟨hB_o, fr_o, (by omega), (by first | exact (fun h => h) | assumption | omega)⟩
      ·
        refine T_qB (t_X12_isWorth x4 (by omega)) (fun r7 hc_r7 hp7 => ?_)
        replace hp7 : ((r7 = 1 ∧ 1 ≤ x4 ∧ x4 ≤ 100000) ∨ (r7 = 0 ∧ (x4 < 1 ∨ 100000 < x4))) := hp7
        refine T_qEq ⟨by omega, by omega⟩ ⟨by decide, by decide⟩ (fun h8 => ?_) (fun h8 => ?_)
        ·
          unfold b_X12_building_34
          refine T_some ?_
          show BoxM o ∧ (Fr [(0, 17), (0, 23), (13, 9999), (14, 9999), (15, 9999), (17, 9999), (18, 9999), (19, 9999), (20, 9999)] o o) ∧ (inR (-1)) ∧ (HT o → HT o)
          exact ⟨hB_o, fr_o, (by omega), (by first | exact (fun h => h) | assumption | omega)⟩
        ·
          refine T_qEq ⟨by omega, by omega⟩ ⟨by decide, by decide⟩ (fun h9 => ?_) (fun h9 => ?_)
          ·
            unfold b_X12_building_54
            refine T_some ?_
            show BoxM o ∧ (Fr [(0, 17), (0, 23), (13, 9999), (14, 9999), (15, 9999), (17, 9999), (18, 9999), (19, 9999), (20, 9999)] o o) ∧ (inR (-2)) ∧ (HT o → HT o)
            exact ⟨hB_o, fr_o, (by omega), (by first | exact (fun h => h) | assumption | omega)⟩
          ·
            refine T_qEq ⟨by omega, by omega⟩ ⟨by decide, by decide⟩ (fun h10 => ?_) (fun h10 => ?_)
            ·
              unfold b_X12_building_54
              refine T_some ?_
              show BoxM o ∧ (Fr [(0, 17), (0, 23), (13, 9999), (14, 9999), (15, 9999), (17, 9999), (18, 9999), (19, 9999), (20, 9999)] o o) ∧ (inR (-2)) ∧ (HT o → HT o)
              exact ⟨hB_o, fr_o, (by omega), (by first | exact (fun h => h) | assumption | omega)⟩
            ·
              refine T_qIn ⟨by omega, by omega⟩ ?_
              refine T_qNm (fun n10 e_n10 => ?_)
              have b_n10 : 0 ≤ n10 ∧ n10 ≤ 4 := by rw [e_n10]; exact bM_11 hB_o _
              refine T_qEq ⟨by omega, by omega⟩ ⟨by decide, by decide⟩ (fun h11 => ?_) (fun h11 => ?_)
              ·
                unfold b_X12_building_75
                refine T_some ?_
                show BoxM o ∧ (Fr [(0, 17), (0, 23), (13, 9999), (14, 9999), (15, 9999), (17, 9999), (18, 9999), (19, 9999), (20, 9999)] o o) ∧ (inR (-4)) ∧ (HT o → HT o)
                exact ⟨hB_o, fr_o, (by omega), (by first | exact (fun h => h) | assumption | omega)⟩
              ·
                refine T_qB (t_X12_on o x1 hB_o (by omega)) (fun r11 hc_r11 hp12 => ?_)
                replace hp12 : ((r11 = -9 ∨ 0 ≤ r11) ∧ r11 < o.1 0 17) := hp12
                refine T_qLt ⟨by omega, by omega⟩ ⟨by decide, by decide⟩ (fun h13 => ?_) (fun h13 => ?_)
                ·
                  refine T_qIn ⟨by omega, by omega⟩ ?_
                  refine T_qNm (fun o14 e_o14 => ?_)
                  have hB_o14 : BoxM o14 := by rw [e_o14]; exact Box.s1 hB_o (show 0 ≤ x1 ∧ x1 ≤ 63 from ⟨by omega, by omega⟩)
                  have fr_o14 : Fr [(0, 17), (0, 23), (13, 9999), (14, 9999), (15, 9999), (17, 9999), (18, 9999), (19, 9999), (20, 9999)] o o14 := by rw [e_o14]; exact Fr.s1 fr_o rfl
                  have g0_17_o14 : o14.1 0 17 = o.1 0 17 := by rw [e_o14]; rfl
                  have g0_23_o14 : o14.1 0 23 = o.1 0 23 := by rw [e_o14]; rfl
                  refine T_qIn ⟨by omega, by omega⟩ ?_
                  refine T_qNm (fun o16 e_o16 => ?_)
                  have hB_o16 : BoxM o16 := by rw [e_o16]; exact Box.s1 hB_o14 (show 0 ≤ x2 ∧ x2 ≤ 2 from ⟨by omega, by omega⟩)
                  have fr_o16 : Fr [(0, 17), (0, 23), (13, 9999), (14, 9999), (15, 9999), (17, 9999), (18, 9999), (19, 9999), (20, 9999)] o o16 := by rw [e_o16]; exact Fr.s1 fr_o14 rfl
                  have g0_17_o16 : o16.1 0 17 = o14.1 0 17 := by rw [e_o16]; rfl
                  have g0_23_o16 : o16.1 0 23 = o14.1 0 23 := by rw [e_o16]; rfl
                  refine T_qIn ⟨by omega, by omega⟩ ?_
                  refine T_qNm (fun o18 e_o18 => ?_)
                  have hB_o18 : BoxM o18 := by rw [e_o18]; exact Box.s1 hB_o16 (show 0 ≤ x3 ∧ x3 ≤ 20 from ⟨by omega, by omega⟩)
                  have fr_o18 : Fr [(0, 17), (0, 23), (13, 9999), (14, 9999), (15, 9999), (17, 9999), (18, 9999), (19, 9999), (20, 9999)] o o18 := by rw [e_o18]; exact Fr.s1 fr_o16 rfl
                  have g0_17_o18 : o18.1 0 17 = o16.1 0 17 := by rw [e_o18]; rfl
                  have g0_23_o18 : o18.1 0 23 = o16.1 0 23 := by rw [e_o18]; rfl
                  refine T_qIn ⟨by omega, by omega⟩ ?_
                  refine T_qNm (fun o20 e_o20 => ?_)
                  have hB_o20 : BoxM o20 := by rw [e_o20]; exact Box.s1 hB_o18 (show -9 ≤ (-9) ∧ (-9) ≤ 39 from ⟨by omega, by omega⟩)
                  have fr_o20 : Fr [(0, 17), (0, 23), (13, 9999), (14, 9999), (15, 9999), (17, 9999), (18, 9999), (19, 9999), (20, 9999)] o o20 := by rw [e_o20]; exact Fr.s1 fr_o18 rfl
                  have g0_17_o20 : o20.1 0 17 = o18.1 0 17 := by rw [e_o20]; rfl
                  have g0_23_o20 : o20.1 0 23 = o18.1 0 23 := by rw [e_o20]; rfl
                  refine T_qB (t_X12_tell o20 (o20.1 0 17) x4 hB_o20 (by omega) (by omega) (by omega)) (fun o23 hc_o23 hp14 => ?_)
                  replace hp14 : BoxM o23 ∧ (Fr [(0, 23), (18, 9999), (19, 9999), (20, 9999)] o20 o23) ∧ (o23.1 0 23 = o20.1 0 23 + 1) ∧ (HT o20 → HT o23) ∧ (o23.1 18 (o20.1 0 23).toNat = (o20.1 0 17)) := hp14
                  obtain ⟨hB_o23, fc_o23, hp14⟩ := hp14
                  have fr_o23 : Fr [(0, 17), (0, 23), (13, 9999), (14, 9999), (15, 9999), (17, 9999), (18, 9999), (19, 9999), (20, 9999)] o o23 := Fr.tr fr_o20 fc_o23 rfl
                  have g0_17_o23 : o23.1 0 17 = o20.1 0 17 := fc_o23.1 0 17 rfl
                  have g0_23_o23 := bM_0_23 hB_o23
                  have ht23 : HT o → HT o23 := fun hh => hp14.2.1 (by rw [e_o20, e_o18, e_o16, e_o14]; exact hh)
                  have hk23 := hp14.2.2
                  have hq23 := hp14.1
                  refine T_qNm (fun o24 e_o24 => ?_)
                  have hB_o24 : BoxM o24 := by rw [e_o24]; exact Box.s1 hB_o23 (show 0 ≤ ((o23.1 0 17) + 1) ∧ ((o23.1 0 17) + 1) ≤ 32 from ⟨by omega, by omega⟩)
                  have fr_o24 : Fr [(0, 17), (0, 23), (13, 9999), (14, 9999), (15, 9999), (17, 9999), (18, 9999), (19, 9999), (20, 9999)] o o24 := by rw [e_o24]; exact Fr.s1 fr_o23 rfl
                  have g0_17_o24 : o24.1 0 17 = ((o23.1 0 17) + 1) := by rw [e_o24]; rfl
                  have g0_23_o24 : o24.1 0 23 = o23.1 0 23 := by rw [e_o24]; rfl
                  have ht24 : HT o → HT o24 := fun hh => HT_build (ht23 hh) (by rw [e_o24]; rfl) (by rw [e_o24]; rfl) (fun k => by rw [e_o24]; rfl) (o20.1 0 23).toNat (by omega) (by rw [hk23]; exact g0_17_o23.symm)
                  refine T_some ?_
                  show BoxM o24 ∧ (Fr [(0, 17), (0, 23), (13, 9999), (14, 9999), (15, 9999), (17, 9999), (18, 9999), (19, 9999), (20, 9999)] o o24) ∧ (inR ((o24.1 0 17) - 1)) ∧ (HT o → HT o24)
                  exact ⟨hB_o24, fr_o24, (by omega), (by first | exact (fun h => h) | assumption | omega)⟩
                ·
                  unfold b_X12_building_75
                  refine T_some ?_
                  show BoxM o ∧ (Fr [(0, 17), (0, 23), (13, 9999), (14, 9999), (15, 9999), (17, 9999), (18, 9999), (19, 9999), (20, 9999)] o o) ∧ (inR (-4)) ∧ (HT o → HT o)
                  exact ⟨hB_o, fr_o, (by omega), (by first | exact (fun h => h) | assumption | omega)⟩
set_option maxRecDepth 20000 in
set_option maxHeartbeats 4000000 in
theorem t_X12_isBuilding (o : OO) (x1 : Int) (hB_o : BoxM o) (k0 : inR x1) : T (s_X12_isBuilding o x1) (fun v => ((v = 1 ∧ 0 ≤ x1 ∧ x1 < o.1 0 17) ∨ (v = 0 ∧ (x1 < 0 ∨ o.1 0 17 ≤ x1)))) := by
  have g0_17_o := bM_0_17 hB_o
  unfold s_X12_isBuilding
  refine T_qB (t_X12_in x1 0 ((o.1 0 17) - 1) (by omega) (by omega) (by omega)) (fun r1 hc_r1 hp1 => ?_)
  replace hp1 : ((r1 = 1 ∧ 0 ≤ x1 ∧ x1 ≤ ((o.1 0 17) - 1)) ∨ (r1 = 0 ∧ (x1 < 0 ∨ ((o.1 0 17) - 1) < x1))) := hp1
  refine T_qZ (by omega) ?_
  refine T_some ?_
  show ((r1 = 1 ∧ 0 ≤ x1 ∧ x1 < o.1 0 17) ∨ (r1 = 0 ∧ (x1 < 0 ∨ o.1 0 17 ≤ x1)))
  exact (by omega)
set_option maxRecDepth 20000 in
set_option maxHeartbeats 4000000 in
theorem t_X12_isPerson (o : OO) (x1 : Int) (hB_o : BoxM o) (k0 : inR x1) : T (s_X12_isPerson o x1) (fun v => ((v = 1 ∧ 0 ≤ x1 ∧ x1 < o.1 0 27) ∨ (v = 0 ∧ (x1 < 0 ∨ o.1 0 27 ≤ x1)))) := by
  have g0_27_o := bM_0_27 hB_o
  unfold s_X12_isPerson
  refine T_qB (t_X12_in x1 0 ((o.1 0 27) - 1) (by omega) (by omega) (by omega)) (fun r1 hc_r1 hp1 => ?_)
  replace hp1 : ((r1 = 1 ∧ 0 ≤ x1 ∧ x1 ≤ ((o.1 0 27) - 1)) ∨ (r1 = 0 ∧ (x1 < 0 ∨ ((o.1 0 27) - 1) < x1))) := hp1
  refine T_qZ (by omega) ?_
  refine T_some ?_
  show ((r1 = 1 ∧ 0 ≤ x1 ∧ x1 < o.1 0 27) ∨ (r1 = 0 ∧ (x1 < 0 ∨ o.1 0 27 ≤ x1)))
  exact (by omega)
set_option maxRecDepth 20000 in
set_option maxHeartbeats 4000000 in
theorem t_X12_buy (o : OO) (x1 : Int) (x2 : Int) (hB_o : BoxM o) (k0 : inR x1) (k1 : inR x2) : T (s_X12_buy o x1 x2) (fun v => BoxM v.2 ∧ (Fr [(0, 48), (17, 9999), (40, 9999), (41, 9999), (42, 9999)] o v.2)) := by
  have fr_o : Fr [(0, 48), (17, 9999), (40, 9999), (41, 9999), (42, 9999)] o o := Fr.rf
  have g0_48_o := bM_0_48 hB_o
  have g0_4_o := bM_0_4 hB_o
  have g0_17_o := bM_0_17 hB_o
  have g0_27_o := bM_0_27 hB_o
  unfold s_X12_buy
  refine T_qB (t_X12_isBuilding o x1 hB_o (by omega)) (fun r1 hc_r1 hp1 => ?_)
  replace hp1 : ((r1 = 1 ∧ 0 ≤ x1 ∧ x1 < o.1 0 17) ∨ (r1 = 0 ∧ (x1 < 0 ∨ o.1 0 17 ≤ x1))) := hp1
  refine T_qEq ⟨by omega, by omega⟩ ⟨by decide, by decide⟩ (fun h2 => ?_) (fun h2 => ?_)
  ·
    unfold b_X12_buy_16
    refine T_some ?_
    show BoxM o ∧ (Fr [(0, 48), (17, 9999), (40, 9999), (41, 9999), (42, 9999)] o o)
    exact ⟨hB_o, fr_o⟩
  ·
    refine T_qB (t_X12_isPerson o x2 hB_o (by omega)) (fun r3 hc_r3 hp3 => ?_)
    replace hp3 : ((r3 = 1 ∧ 0 ≤ x2 ∧ x2 < o.1 0 27) ∨ (r3 = 0 ∧ (x2 < 0 ∨ o.1 0 27 ≤ x2))) := hp3
    refine T_qEq ⟨by omega, by omega⟩ ⟨by decide, by decide⟩ (fun h4 => ?_) (fun h4 => ?_)
    ·
      unfold b_X12_buy_16
      refine T_some ?_
      show BoxM o ∧ (Fr [(0, 48), (17, 9999), (40, 9999), (41, 9999), (42, 9999)] o o)
      exact ⟨hB_o, fr_o⟩
    ·
      refine T_qEq ⟨by omega, by omega⟩ ⟨by decide, by decide⟩ (fun h5 => ?_) (fun h5 => ?_)
      ·
        refine T_some ?_
        show BoxM o ∧ (Fr [(0, 48), (17, 9999), (40, 9999), (41, 9999), (42, 9999)] o o)
        exact ⟨hB_o, fr_o⟩
      ·
        refine T_qIn ⟨by omega, by omega⟩ ?_
        refine T_qNm (fun n6 e_n6 => ?_)
        have b_n6 : 0 ≤ n6 ∧ n6 ≤ 1 := by rw [e_n6]; exact bM_16 hB_o _
        refine T_qEq ⟨by omega, by omega⟩ ⟨by decide, by decide⟩ (fun h6 => ?_) (fun h6 => ?_)
        ·
          refine T_qIn ⟨by omega, by omega⟩ ?_
          refine T_qNm (fun o8 e_o8 => ?_)
          have hB_o8 : BoxM o8 := by rw [e_o8]; exact Box.s1 hB_o (show 0 ≤ x1 ∧ x1 ≤ 31 from ⟨by omega, by omega⟩)
          have fr_o8 : Fr [(0, 48), (17, 9999), (40, 9999), (41, 9999), (42, 9999)] o o8 := by rw [e_o8]; exact Fr.s1 fr_o rfl
          have g0_48_o8 : o8.1 0 48 = o.1 0 48 := by rw [e_o8]; rfl
          have g0_4_o8 : o8.1 0 4 = o.1 0 4 := by rw [e_o8]; rfl
          have g0_17_o8 : o8.1 0 17 = o.1 0 17 := by rw [e_o8]; rfl
          have g0_27_o8 : o8.1 0 27 = o.1 0 27 := by rw [e_o8]; rfl
          refine T_qIn ⟨by omega, by omega⟩ ?_
          refine T_qNm (fun o10 e_o10 => ?_)
          have hB_o10 : BoxM o10 := by rw [e_o10]; exact Box.s1 hB_o8 (show 0 ≤ x2 ∧ x2 ≤ 39 from ⟨by omega, by omega⟩)
          have fr_o10 : Fr [(0, 48), (17, 9999), (40, 9999), (41, 9999), (42, 9999)] o o10 := by rw [e_o10]; exact Fr.s1 fr_o8 rfl
          have g0_48_o10 : o10.1 0 48 = o8.1 0 48 := by rw [e_o10]; rfl
          have g0_4_o10 : o10.1 0 4 = o8.1 0 4 := by rw [e_o10]; rfl
          have g0_17_o10 : o10.1 0 17 = o8.1 0 17 := by rw [e_o10]; rfl
          have g0_27_o10 : o10.1 0 27 = o8.1 0 27 := by rw [e_o10]; rfl
          refine T_qIn ⟨by omega, by omega⟩ ?_
          refine T_qNm (fun o12 e_o12 => ?_)
          have hB_o12 : BoxM o12 := by rw [e_o12]; exact Box.s1 hB_o10 (show 0 ≤ (o10.1 0 4) ∧ (o10.1 0 4) ≤ 999 from ⟨by omega, by omega⟩)
          have fr_o12 : Fr [(0, 48), (17, 9999), (40, 9999), (41, 9999), (42, 9999)] o o12 := by rw [e_o12]; exact Fr.s1 fr_o10 rfl
          have g0_48_o12 : o12.1 0 48 = o10.1 0 48 := by rw [e_o12]; rfl
          have g0_4_o12 : o12.1 0 4 = o10.1 0 4 := by rw [e_o12]; rfl
          have g0_17_o12 : o12.1 0 17 = o10.1 0 17 := by rw [e_o12]; rfl
          have g0_27_o12 : o12.1 0 27 = o10.1 0 27 := by rw [e_o12]; rfl
          refine T_qNm (fun o13 e_o13 => ?_)
          have hB_o13 : BoxM o13 := by rw [e_o13]; exact Box.s1 hB_o12 (show 0 ≤ ((o12.1 0 48) + 1) ∧ ((o12.1 0 48) + 1) ≤ 40 from ⟨by omega, by omega⟩)
          have fr_o13 : Fr [(0, 48), (17, 9999), (40, 9999), (41, 9999), (42, 9999)] o o13 := by rw [e_o13]; exact Fr.s1 fr_o12 rfl
          have g0_48_o13 : o13.1 0 48 = ((o12.1 0 48) + 1) := by rw [e_o13]; rfl
          have g0_4_o13 : o13.1 0 4 = o12.1 0 4 := by rw [e_o13]; rfl
          have g0_17_o13 : o13.1 0 17 = o12.1 0 17 := by rw [e_o13]; rfl
          have g0_27_o13 : o13.1 0 27 = o12.1 0 27 := by rw [e_o13]; rfl
          refine T_qIn ⟨by omega, by omega⟩ ?_
          refine T_qNm (fun o15 e_o15 => ?_)
          have hB_o15 : BoxM o15 := by rw [e_o15]; exact Box.s1 hB_o13 (show -9 ≤ x2 ∧ x2 ≤ 39 from ⟨by omega, by omega⟩)
          have fr_o15 : Fr [(0, 48), (17, 9999), (40, 9999), (41, 9999), (42, 9999)] o o15 := by rw [e_o15]; exact Fr.s1 fr_o13 rfl
          have g0_48_o15 : o15.1 0 48 = o13.1 0 48 := by rw [e_o15]; rfl
          have g0_4_o15 : o15.1 0 4 = o13.1 0 4 := by rw [e_o15]; rfl
          have g0_17_o15 : o15.1 0 17 = o13.1 0 17 := by rw [e_o15]; rfl
          have g0_27_o15 : o15.1 0 27 = o13.1 0 27 := by rw [e_o15]; rfl
          refine T_some ?_
          show BoxM o15 ∧ (Fr [(0, 48), (17, 9999), (40, 9999), (41, 9999), (42, 9999)] o o15)
          exact ⟨hB_o15, fr_o15⟩
        ·
          refine T_some ?_
          show BoxM o ∧ (Fr [(0, 48), (17, 9999), (40, 9999), (41, 9999), (42, 9999)] o o)
          exact ⟨hB_o, fr_o⟩
set_option maxRecDepth 20000 in
set_option maxHeartbeats 4000000 in
theorem t_X12_cell (o : OO) (x1 : Int) (x2 : Int) (x3 : Int) (hB_o : BoxM o) (k0 : inR x1) (k1 : inR x2) (k2 : inR x3) : T (s_X12_cell o x1 x2 x3) (fun v => BoxM v.2 ∧ (Fr [(11, 9999), (12, 9999)] o v.2)) := by
  have fr_o : Fr [(11, 9999), (12, 9999)] o o := Fr.rf
  have g0_17_o := bM_0_17 hB_o
  unfold s_X12_cell
  refine T_qB (t_X12_isCell x1 (by omega)) (fun r5 hc_r5 hp1 => ?_)
  replace hp1 : ((r5 = 1 ∧ 0 ≤ x1 ∧ x1 ≤ 63) ∨ (r5 = 0 ∧ (x1 < 0 ∨ 63 < x1))) := hp1
  refine T_qEq ⟨by omega, by omega⟩ ⟨by decide, by decide⟩ (fun h2 => ?_) (fun h2 => ?_)
  ·
    unfold b_X12_cell_26
    refine T_some ?_
    show BoxM o ∧ (Fr [(11, 9999), (12, 9999)] o o)
    exact ⟨hB_o, fr_o⟩
  ·
    refine T_qB (t_X12_in x2 0 4 (by omega) (by omega) (by omega)) (fun r7 hc_r7 hp3 => ?_)
    replace hp3 : ((r7 = 1 ∧ 0 ≤ x2 ∧ x2 ≤ 4) ∨ (r7 = 0 ∧ (x2 < 0 ∨ 4 < x2))) := hp3
    refine T_qEq ⟨by omega, by omega⟩ ⟨by decide, by decide⟩ (fun h4 => ?_) (fun h4 => ?_)
    ·
      unfold b_X12_cell_26
      refine T_some ?_
      show BoxM o ∧ (Fr [(11, 9999), (12, 9999)] o o)
      exact ⟨hB_o, fr_o⟩
    ·
      refine T_qB (t_X12_in x3 0 99 (by omega) (by omega) (by omega)) (fun r9 hc_r9 hp5 => ?_)
      replace hp5 : ((r9 = 1 ∧ 0 ≤ x3 ∧ x3 ≤ 99) ∨ (r9 = 0 ∧ (x3 < 0 ∨ 99 < x3))) := hp5
      refine T_qEq ⟨by omega, by omega⟩ ⟨by decide, by decide⟩ (fun h6 => ?_) (fun h6 => ?_)
      ·
        unfold b_X12_cell_26
        refine T_some ?_
        show BoxM o ∧ (Fr [(11, 9999), (12, 9999)] o o)
        exact ⟨hB_o, fr_o⟩
      ·
        refine T_qEq ⟨by omega, by omega⟩ ⟨by decide, by decide⟩ (fun h7 => ?_) (fun h7 => ?_)
        ·
          refine T_qB (t_X12_on o x1 hB_o (by omega)) (fun r11 hc_r11 hp8 => ?_)
          replace hp8 : ((r11 = -9 ∨ 0 ≤ r11) ∧ r11 < o.1 0 17) := hp8
          refine T_qLt ⟨by omega, by omega⟩ ⟨by decide, by decide⟩ (fun h9 => ?_) (fun h9 => ?_)
          ·
            unfold b_X12_cell_44
            refine T_qIn ⟨by omega, by omega⟩ ?_
            refine T_qNm (fun o2 e_o2 => ?_)
            have hB_o2 : BoxM o2 := by rw [e_o2]; exact Box.s1 hB_o (show 0 ≤ x2 ∧ x2 ≤ 4 from ⟨by omega, by omega⟩)
            have fr_o2 : Fr [(11, 9999), (12, 9999)] o o2 := by rw [e_o2]; exact Fr.s1 fr_o rfl
            have g0_17_o2 : o2.1 0 17 = o.1 0 17 := by rw [e_o2]; rfl
            refine T_qIn ⟨by omega, by omega⟩ ?_
            refine T_qNm (fun o4 e_o4 => ?_)
            have hB_o4 : BoxM o4 := by rw [e_o4]; exact Box.s1 hB_o2 (show 0 ≤ x3 ∧ x3 ≤ 99 from ⟨by omega, by omega⟩)
            have fr_o4 : Fr [(11, 9999), (12, 9999)] o o4 := by rw [e_o4]; exact Fr.s1 fr_o2 rfl
            have g0_17_o4 : o4.1 0 17 = o2.1 0 17 := by rw [e_o4]; rfl
            refine T_some ?_
            show BoxM o4 ∧ (Fr [(11, 9999), (12, 9999)] o o4)
            exact ⟨hB_o4, fr_o4⟩
          ·
            refine T_some ?_
            show BoxM o ∧ (Fr [(11, 9999), (12, 9999)] o o)
            exact ⟨hB_o, fr_o⟩
        ·
          unfold b_X12_cell_44
          refine T_qIn ⟨by omega, by omega⟩ ?_
          refine T_qNm (fun o2 e_o2 => ?_)
          have hB_o2 : BoxM o2 := by rw [e_o2]; exact Box.s1 hB_o (show 0 ≤ x2 ∧ x2 ≤ 4 from ⟨by omega, by omega⟩)
          have fr_o2 : Fr [(11, 9999), (12, 9999)] o o2 := by rw [e_o2]; exact Fr.s1 fr_o rfl
          have g0_17_o2 : o2.1 0 17 = o.1 0 17 := by rw [e_o2]; rfl
          refine T_qIn ⟨by omega, by omega⟩ ?_
          refine T_qNm (fun o4 e_o4 => ?_)
          have hB_o4 : BoxM o4 := by rw [e_o4]; exact Box.s1 hB_o2 (show 0 ≤ x3 ∧ x3 ≤ 99 from ⟨by omega, by omega⟩)
          have fr_o4 : Fr [(11, 9999), (12, 9999)] o o4 := by rw [e_o4]; exact Fr.s1 fr_o2 rfl
          have g0_17_o4 : o4.1 0 17 = o2.1 0 17 := by rw [e_o4]; rfl
          refine T_some ?_
          show BoxM o4 ∧ (Fr [(11, 9999), (12, 9999)] o o4)
          exact ⟨hB_o4, fr_o4⟩
set_option maxRecDepth 20000 in
set_option maxHeartbeats 4000000 in
theorem t_X12_isMark (o : OO) (x1 : Int) (hB_o : BoxM o) (k0 : inR x1) : T (s_X12_isMark o x1) (fun v => ((v = 1 ∧ 0 ≤ x1 ∧ x1 < o.1 0 32) ∨ (v = 0 ∧ (x1 < 0 ∨ o.1 0 32 ≤ x1)))) := by
  have g0_32_o := bM_0_32 hB_o
  unfold s_X12_isMark
  refine T_qB (t_X12_in x1 0 ((o.1 0 32) - 1) (by omega) (by omega) (by omega)) (fun r1 hc_r1 hp1 => ?_)
  replace hp1 : ((r1 = 1 ∧ 0 ≤ x1 ∧ x1 ≤ ((o.1 0 32) - 1)) ∨ (r1 = 0 ∧ (x1 < 0 ∨ ((o.1 0 32) - 1) < x1))) := hp1
  refine T_qZ (by omega) ?_
  refine T_some ?_
  show ((r1 = 1 ∧ 0 ≤ x1 ∧ x1 < o.1 0 32) ∨ (r1 = 0 ∧ (x1 < 0 ∨ o.1 0 32 ≤ x1)))
  exact (by omega)
set_option maxRecDepth 20000 in
set_option maxHeartbeats 4000000 in
theorem t_X12_isLine (o : OO) (x1 : Int) (hB_o : BoxM o) (k0 : 0 ≤ x1 ∧ x1 ≤ 23) : T (s_X12_isLine o x1) (fun v => (0 ≤ v ∧ v ≤ 1)) := by
  unfold s_X12_isLine
  refine T_qIn ⟨by omega, by omega⟩ ?_
  refine T_qNm (fun n2 e_n2 => ?_)
  have b_n2 : 0 ≤ n2 ∧ n2 ≤ 6 := by rw [e_n2]; exact bM_25 hB_o _
  refine T_qEq ⟨by omega, by omega⟩ ⟨by decide, by decide⟩ (fun h1 => ?_) (fun h1 => ?_)
  ·
    unfold b_X12_isLine_20
    unfold b_X12_isLine_25
    refine T_qZ (Or.inr rfl) ?_
    refine T_some ?_
    show (0 ≤ 1 ∧ 1 ≤ 1)
    exact (by omega)
  ·
    refine T_qIn ⟨by omega, by omega⟩ ?_
    refine T_qNm (fun n4 e_n4 => ?_)
    have b_n4 : 0 ≤ n4 ∧ n4 ≤ 6 := by rw [e_n4]; exact bM_25 hB_o _
    refine T_qEq ⟨by omega, by omega⟩ ⟨by decide, by decide⟩ (fun h2 => ?_) (fun h2 => ?_)
    ·
      unfold b_X12_isLine_20
      unfold b_X12_isLine_25
      refine T_qZ (Or.inr rfl) ?_
      refine T_some ?_
      show (0 ≤ 1 ∧ 1 ≤ 1)
      exact (by omega)
    ·
      unfold b_X12_isLine_25
      refine T_qZ (Or.inl rfl) ?_
      refine T_some ?_
      show (0 ≤ 0 ∧ 0 ≤ 1)
      exact (by omega)
set_option maxRecDepth 20000 in
set_option maxHeartbeats 4000000 in
theorem t_X12_askedLine (o : OO) (x1 : Int) (hB_o : BoxM o) (k0 : inR x1) : T (s_X12_askedLine o x1) (fun v => BoxM v.2 ∧ (Fr [(0, 0), (1, 9999)] o v.2) ∧ (v.1 = -1 ∨ v.1 = -3 ∨ (v.1 = 0 ∧ 0 ≤ x1 ∧ x1 < o.1 0 32))) := by
  have fr_o : Fr [(0, 0), (1, 9999)] o o := Fr.rf
  have g0_32_o := bM_0_32 hB_o
  unfold s_X12_askedLine
  refine T_qB (t_X12_isMark o x1 hB_o (by omega)) (fun r1 hc_r1 hp1 => ?_)
  replace hp1 : ((r1 = 1 ∧ 0 ≤ x1 ∧ x1 < o.1 0 32) ∨ (r1 = 0 ∧ (x1 < 0 ∨ o.1 0 32 ≤ x1))) := hp1
  refine T_qEq ⟨by omega, by omega⟩ ⟨by decide, by decide⟩ (fun h2 => ?_) (fun h2 => ?_)
  ·
    unfold b_X12_askedLine_29
    refine T_some ?_
    show BoxM o ∧ (Fr [(0, 0), (1, 9999)] o o) ∧ ((-1) = -1 ∨ (-1) = -3 ∨ ((-1) = 0 ∧ 0 ≤ x1 ∧ x1 < o.1 0 32))
    exact ⟨hB_o, fr_o, (by omega)⟩
  ·
    refine T_qB (t_X12_isLine o x1 hB_o (by omega)) (fun r3 hc_r3 hp3 => ?_)
    replace hp3 : (0 ≤ r3 ∧ r3 ≤ 1) := hp3
    refine T_qEq ⟨by omega, by omega⟩ ⟨by decide, by decide⟩ (fun h4 => ?_) (fun h4 => ?_)
    ·
      refine T_qB2 (t_X12_meets o 3 hB_o (by omega)) (fun r5 o7 hc_r5 hp5 => ?_)
      replace hp5 : BoxM o7 ∧ (Fr [(0, 0), (1, 9999)] o o7) ∧ (r5 = -3) := hp5
      obtain ⟨hB_o7, fc_o7, hp5⟩ := hp5
      have fr_o7 : Fr [(0, 0), (1, 9999)] o o7 := Fr.tr fr_o fc_o7 rfl
      have g0_32_o7 : o7.1 0 32 = o.1 0 32 := fc_o7.1 0 32 rfl
      unfold b_X12_askedLine_29
      refine T_some ?_
      show BoxM o7 ∧ (Fr [(0, 0), (1, 9999)] o o7) ∧ (r5 = -1 ∨ r5 = -3 ∨ (r5 = 0 ∧ 0 ≤ x1 ∧ x1 < o.1 0 32))
      exact ⟨hB_o7, fr_o7, (by omega)⟩
    ·
      unfold b_X12_askedLine_29
      refine T_some ?_
      show BoxM o ∧ (Fr [(0, 0), (1, 9999)] o o) ∧ (0 = -1 ∨ 0 = -3 ∨ (0 = 0 ∧ 0 ≤ x1 ∧ x1 < o.1 0 32))
      exact ⟨hB_o, fr_o, (by omega)⟩
set_option maxRecDepth 20000 in
set_option maxHeartbeats 4000000 in
theorem t_X12_cellOf (o : OO) (x1 : Int) (x2 : Int) (hB_o : BoxM o) (k0 : inR x1) (k1 : inR x2) : T (s_X12_cellOf o x1 x2) (fun v => BoxM v.2 ∧ (Fr [(0, 0), (1, 9999)] o v.2)) := by
  have fr_o : Fr [(0, 0), (1, 9999)] o o := Fr.rf
  have g0_32_o := bM_0_32 hB_o
  unfold s_X12_cellOf
  refine T_qB2 (t_X12_askedLine o x1 hB_o (by omega)) (fun r1 o3 hc_r1 hp1 => ?_)
  replace hp1 : BoxM o3 ∧ (Fr [(0, 0), (1, 9999)] o o3) ∧ (r1 = -1 ∨ r1 = -3 ∨ (r1 = 0 ∧ 0 ≤ x1 ∧ x1 < o.1 0 32)) := hp1
  obtain ⟨hB_o3, fc_o3, hp1⟩ := hp1
  have fr_o3 : Fr [(0, 0), (1, 9999)] o o3 := Fr.tr fr_o fc_o3 rfl
  have g0_32_o3 : o3.1 0 32 = o.1 0 32 := fc_o3.1 0 32 rfl
  refine T_qLt ⟨by omega, by omega⟩ ⟨by decide, by decide⟩ (fun h2 => ?_) (fun h2 => ?_)
  ·
    unfold b_X12_cellOf_46
    refine T_some ?_
    show BoxM o3 ∧ (Fr [(0, 0), (1, 9999)] o o3)
    exact ⟨hB_o3, fr_o3⟩
  ·
    refine T_qIn ⟨by omega, by omega⟩ ?_
    refine T_qNm (fun n5 e_n5 => ?_)
    have b_n5 : 0 ≤ n5 ∧ n5 ≤ 64 := by rw [e_n5]; exact bM_30 hB_o3 _
    refine T_qB (t_X12_in x2 0 (n5 - 1) (by omega) (by omega) (by omega)) (fun r6 hc_r6 hp3 => ?_)
    replace hp3 : ((r6 = 1 ∧ 0 ≤ x2 ∧ x2 ≤ (n5 - 1)) ∨ (r6 = 0 ∧ (x2 < 0 ∨ (n5 - 1) < x2))) := hp3
    refine T_qEq ⟨by omega, by omega⟩ ⟨by decide, by decide⟩ (fun h4 => ?_) (fun h4 => ?_)
    ·
      unfold b_X12_cellOf_46
      refine T_some ?_
      show BoxM o3 ∧ (Fr [(0, 0), (1, 9999)] o o3)
      exact ⟨hB_o3, fr_o3⟩
    ·
      refine T_qIn ⟨by omega, by omega⟩ ?_
      refine T_qNm (fun n9 e_n9 => ?_)
      have b_n9 : 0 ≤ n9 ∧ n9 ≤ 63 := by rw [e_n9]; exact bM_31 hB_o3 _
      unfold b_X12_cellOf_46
      refine T_some ?_
      show BoxM o3 ∧ (Fr [(0, 0), (1, 9999)] o o3)
      exact ⟨hB_o3, fr_o3⟩
set_option maxRecDepth 20000 in
set_option maxHeartbeats 4000000 in
theorem t_X12_coins (o : OO) (hB_o : BoxM o) : T (s_X12_coins o) (fun _ => True) := by
  unfold s_X12_coins
  refine T_some ?_
  show True
  exact trivial
set_option maxRecDepth 20000 in
set_option maxHeartbeats 4000000 in
theorem tl_X12_copy_104 (x1 : Int) (x2 : Int) (x3 : Int) (x4 : Int) (x5 : Int) (i_o : OO) (i_x6 : Int) (hB_i_o : BoxM i_o) (k0 : inR x1) (k1 : inR x2) (k2 : inR x3) (k3 : inR x4) (k4 : inR x5) (k5 : 0 ≤ x1 ∧ x1 ≤ 5) (k6 : 0 ≤ x2 ∧ x2 ≤ 40) (k7 : x2 + x5 ≤ 40) (k8 : 0 ≤ x3 ∧ x3 ≤ 5) (k9 : 0 ≤ x4 ∧ x4 ≤ 40) (k10 : 0 ≤ x5 ∧ x5 ≤ 40) (k11 : x4 + x5 ≤ 40) (v0 : 0 ≤ i_x6 ∧ i_x6 ≤ x5) : T (loopW (fun s => l_X12_copy_104 x1 x2 x3 x4 x5 s.1 s.2) (i_o, i_x6)) (fun r => BoxM r ∧ (Fr [(4, 9999)] i_o r)) := by
  have fr_i_o : Fr [(4, 9999)] i_o i_o := Fr.rf
  refine T_loop (fun s => BoxM s.1 ∧ (Fr [(4, 9999)] i_o s.1) ∧ (0 ≤ s.2 ∧ s.2 ≤ x5)) (fun s => (x5 - s.2).toNat) (by exact ⟨hB_i_o, fr_i_o, v0⟩) (fun s hs => ?_)
  obtain ⟨o, x6⟩ := s
  replace hs : BoxM o ∧ (Fr [(4, 9999)] i_o o) ∧ (0 ≤ x6 ∧ x6 ≤ x5) := hs
  obtain ⟨hB_o, fr_o, w0⟩ := hs
  show T (l_X12_copy_104 x1 x2 x3 x4 x5 o x6) _
  unfold l_X12_copy_104
  refine T_qLt ⟨by omega, by omega⟩ ⟨by omega, by omega⟩ (fun h1 => ?_) (fun h1 => ?_)
  ·
    refine T_qNm (fun n11 e_n11 => ?_)
    refine T_qIn ⟨by omega, by omega⟩ ?_
    refine T_qNm (fun n13 e_n13 => ?_)
    have b_n13 : -2147483648 ≤ n13 ∧ n13 ≤ 2147483647 := by rw [e_n13]; exact bM_3 hB_o _
    refine T_qIn ⟨by omega, by omega⟩ ?_
    refine T_qNm (fun o15 e_o15 => ?_)
    have hB_o15 : BoxM o15 := by rw [e_o15]; exact Box.s1 hB_o (show -2147483648 ≤ n13 ∧ n13 ≤ 2147483647 from ⟨by omega, by omega⟩)
    have fr_o15 : Fr [(4, 9999)] i_o o15 := by rw [e_o15]; exact Fr.s1 fr_o rfl
    refine T_some ?_
    show (BoxM o15 ∧ (Fr [(4, 9999)] i_o o15) ∧ (0 ≤ (x6 + 1) ∧ (x6 + 1) ≤ x5)) ∧ (x5 - (x6 + 1)).toNat < (x5 - x6).toNat
    exact ⟨⟨hB_o15, fr_o15, (by omega)⟩, by omega⟩
  ·
    refine T_some ?_
    show BoxM o ∧ (Fr [(4, 9999)] i_o o)
    exact ⟨hB_o, fr_o⟩
set_option maxRecDepth 20000 in
set_option maxHeartbeats 4000000 in
theorem tl_X12_copy_141 (x3 : Int) (x4 : Int) (x5 : Int) (i_o : OO) (i_x6 : Int) (hB_i_o : BoxM i_o) (k0 : inR x3) (k1 : inR x4) (k2 : inR x5) (k3 : 0 ≤ x3 ∧ x3 ≤ 5) (k4 : 0 ≤ x4 ∧ x4 ≤ 40) (k5 : 0 ≤ x5 ∧ x5 ≤ 40) (k6 : x4 + x5 ≤ 40) (v0 : 0 ≤ i_x6 ∧ i_x6 ≤ x5) : T (loopW (fun s => l_X12_copy_141 x3 x4 x5 s.1 s.2) (i_o, i_x6)) (fun r => BoxM r ∧ (Fr [(3, 9999)] i_o r)) := by
  have fr_i_o : Fr [(3, 9999)] i_o i_o := Fr.rf
  refine T_loop (fun s => BoxM s.1 ∧ (Fr [(3, 9999)] i_o s.1) ∧ (0 ≤ s.2 ∧ s.2 ≤ x5)) (fun s => (x5 - s.2).toNat) (by exact ⟨hB_i_o, fr_i_o, v0⟩) (fun s hs => ?_)
  obtain ⟨o, x6⟩ := s
  replace hs : BoxM o ∧ (Fr [(3, 9999)] i_o o) ∧ (0 ≤ x6 ∧ x6 ≤ x5) := hs
  obtain ⟨hB_o, fr_o, w0⟩ := hs
  show T (l_X12_copy_141 x3 x4 x5 o x6) _
  unfold l_X12_copy_141
  refine T_qLt ⟨by omega, by omega⟩ ⟨by omega, by omega⟩ (fun h2 => ?_) (fun h2 => ?_)
  ·
    refine T_qIn ⟨by omega, by omega⟩ ?_
    refine T_qNm (fun n8 e_n8 => ?_)
    have b_n8 : -2147483648 ≤ n8 ∧ n8 ≤ 2147483647 := by rw [e_n8]; exact bM_4 hB_o _
    refine T_qIn ⟨by omega, by omega⟩ ?_
    refine T_qNm (fun o10 e_o10 => ?_)
    have hB_o10 : BoxM o10 := by rw [e_o10]; exact Box.s1 hB_o (show -2147483648 ≤ n8 ∧ n8 ≤ 2147483647 from ⟨by omega, by omega⟩)
    have fr_o10 : Fr [(3, 9999)] i_o o10 := by rw [e_o10]; exact Fr.s1 fr_o rfl
    refine T_some ?_
    show (BoxM o10 ∧ (Fr [(3, 9999)] i_o o10) ∧ (0 ≤ (x6 + 1) ∧ (x6 + 1) ≤ x5)) ∧ (x5 - (x6 + 1)).toNat < (x5 - x6).toNat
    exact ⟨⟨hB_o10, fr_o10, (by omega)⟩, by omega⟩
  ·
    refine T_some ?_
    show BoxM o ∧ (Fr [(3, 9999)] i_o o)
    exact ⟨hB_o, fr_o⟩
set_option maxRecDepth 20000 in
set_option maxHeartbeats 4000000 in
theorem t_X12_copy (o : OO) (x1 : Int) (x2 : Int) (x3 : Int) (x4 : Int) (x5 : Int) (hB_o : BoxM o) (k0 : inR x1) (k1 : inR x2) (k2 : inR x3) (k3 : inR x4) (k4 : inR x5) : T (s_X12_copy o x1 x2 x3 x4 x5) (fun v => BoxM v.2 ∧ (Fr [(0, 0), (1, 9999), (3, 9999), (4, 9999)] o v.2)) := by
  have fr_o : Fr [(0, 0), (1, 9999), (3, 9999), (4, 9999)] o o := Fr.rf
  unfold s_X12_copy
  refine T_qB (t_X12_isRow x1 (by omega)) (fun r16 hc_r16 hp3 => ?_)
  replace hp3 : ((r16 = 1 ∧ 0 ≤ x1 ∧ x1 ≤ 5) ∨ (r16 = 0 ∧ (x1 < 0 ∨ 5 < x1))) := hp3
  refine T_qEq ⟨by omega, by omega⟩ ⟨by decide, by decide⟩ (fun h4 => ?_) (fun h4 => ?_)
  ·
    unfold b_X12_copy_14
    refine T_some ?_
    show BoxM o ∧ (Fr [(0, 0), (1, 9999), (3, 9999), (4, 9999)] o o)
    exact ⟨hB_o, fr_o⟩
  ·
    refine T_qB (t_X12_isRow x3 (by omega)) (fun r18 hc_r18 hp5 => ?_)
    replace hp5 : ((r18 = 1 ∧ 0 ≤ x3 ∧ x3 ≤ 5) ∨ (r18 = 0 ∧ (x3 < 0 ∨ 5 < x3))) := hp5
    refine T_qEq ⟨by omega, by omega⟩ ⟨by decide, by decide⟩ (fun h6 => ?_) (fun h6 => ?_)
    ·
      unfold b_X12_copy_14
      refine T_some ?_
      show BoxM o ∧ (Fr [(0, 0), (1, 9999), (3, 9999), (4, 9999)] o o)
      exact ⟨hB_o, fr_o⟩
    ·
      refine T_qLt ⟨by omega, by omega⟩ ⟨by decide, by decide⟩ (fun h7 => ?_) (fun h7 => ?_)
      ·
        refine T_qB2 (t_X12_meets o 5 hB_o (by omega)) (fun r28 o30 hc_r28 hp8 => ?_)
        replace hp8 : BoxM o30 ∧ (Fr [(0, 0), (1, 9999)] o o30) ∧ (r28 = -3) := hp8
        obtain ⟨hB_o30, fc_o30, hp8⟩ := hp8
        have fr_o30 : Fr [(0, 0), (1, 9999), (3, 9999), (4, 9999)] o o30 := Fr.tr fr_o fc_o30 rfl
        refine T_some ?_
        show BoxM o30 ∧ (Fr [(0, 0), (1, 9999), (3, 9999), (4, 9999)] o o30)
        exact ⟨hB_o30, fr_o30⟩
      ·
        refine T_qIn ⟨by omega, by omega⟩ ?_
        refine T_qNm (fun n21 e_n21 => ?_)
        have b_n21 : -9 ≤ n21 ∧ n21 ≤ 40 := by rw [e_n21]; exact bM_2 hB_o _
        refine T_qLt ⟨by omega, by omega⟩ ⟨by decide, by decide⟩ (fun h9 => ?_) (fun h9 => ?_)
        ·
          unfold b_X12_copy_45
          refine T_qB2 (t_X12_meets o 1 hB_o (by omega)) (fun r1 o3 hc_r1 hp10 => ?_)
          replace hp10 : BoxM o3 ∧ (Fr [(0, 0), (1, 9999)] o o3) ∧ (r1 = -3) := hp10
          obtain ⟨hB_o3, fc_o3, hp10⟩ := hp10
          have fr_o3 : Fr [(0, 0), (1, 9999), (3, 9999), (4, 9999)] o o3 := Fr.tr fr_o fc_o3 rfl
          refine T_some ?_
          show BoxM o3 ∧ (Fr [(0, 0), (1, 9999), (3, 9999), (4, 9999)] o o3)
          exact ⟨hB_o3, fr_o3⟩
        ·
          refine T_qIn ⟨by omega, by omega⟩ ?_
          refine T_qNm (fun n23 e_n23 => ?_)
          have b_n23 : -9 ≤ n23 ∧ n23 ≤ 40 := by rw [e_n23]; exact bM_2 hB_o _
          refine T_qLt ⟨by omega, by omega⟩ ⟨by decide, by decide⟩ (fun h11 => ?_) (fun h11 => ?_)
          ·
            unfold b_X12_copy_45
            refine T_qB2 (t_X12_meets o 1 hB_o (by omega)) (fun r1 o3 hc_r1 hp12 => ?_)
            replace hp12 : BoxM o3 ∧ (Fr [(0, 0), (1, 9999)] o o3) ∧ (r1 = -3) := hp12
            obtain ⟨hB_o3, fc_o3, hp12⟩ := hp12
            have fr_o3 : Fr [(0, 0), (1, 9999), (3, 9999), (4, 9999)] o o3 := Fr.tr fr_o fc_o3 rfl
            refine T_some ?_
            show BoxM o3 ∧ (Fr [(0, 0), (1, 9999), (3, 9999), (4, 9999)] o o3)
            exact ⟨hB_o3, fr_o3⟩
          ·
            refine T_qLt ⟨by omega, by omega⟩ ⟨by decide, by decide⟩ (fun h13 => ?_) (fun h13 => ?_)
            ·
              unfold b_X12_copy_95
              refine T_qB2 (t_X12_meets o 2 hB_o (by omega)) (fun r4 o6 hc_r4 hp14 => ?_)
              replace hp14 : BoxM o6 ∧ (Fr [(0, 0), (1, 9999)] o o6) ∧ (r4 = -3) := hp14
              obtain ⟨hB_o6, fc_o6, hp14⟩ := hp14
              have fr_o6 : Fr [(0, 0), (1, 9999), (3, 9999), (4, 9999)] o o6 := Fr.tr fr_o fc_o6 rfl
              refine T_some ?_
              show BoxM o6 ∧ (Fr [(0, 0), (1, 9999), (3, 9999), (4, 9999)] o o6)
              exact ⟨hB_o6, fr_o6⟩
            ·
              refine T_qLt ⟨by omega, by omega⟩ ⟨by decide, by decide⟩ (fun h15 => ?_) (fun h15 => ?_)
              ·
                unfold b_X12_copy_95
                refine T_qB2 (t_X12_meets o 2 hB_o (by omega)) (fun r4 o6 hc_r4 hp16 => ?_)
                replace hp16 : BoxM o6 ∧ (Fr [(0, 0), (1, 9999)] o o6) ∧ (r4 = -3) := hp16
                obtain ⟨hB_o6, fc_o6, hp16⟩ := hp16
                have fr_o6 : Fr [(0, 0), (1, 9999), (3, 9999), (4, 9999)] o o6 := Fr.tr fr_o fc_o6 rfl
                refine T_some ?_
                show BoxM o6 ∧ (Fr [(0, 0), (1, 9999), (3, 9999), (4, 9999)] o o6)
                exact ⟨hB_o6, fr_o6⟩
              ·
                refine T_qIn ⟨by omega, by omega⟩ ?_
                refine T_qNm (fun n25 e_n25 => ?_)
                have b_n25 : -9 ≤ n25 ∧ n25 ≤ 40 := by rw [e_n25]; exact bM_2 hB_o _
                refine T_qJl (fun h17 => ?_) (fun h17 => ?_)
                ·
                  unfold b_X12_copy_95
                  refine T_qB2 (t_X12_meets o 2 hB_o (by omega)) (fun r4 o6 hc_r4 hp18 => ?_)
                  replace hp18 : BoxM o6 ∧ (Fr [(0, 0), (1, 9999)] o o6) ∧ (r4 = -3) := hp18
                  obtain ⟨hB_o6, fc_o6, hp18⟩ := hp18
                  have fr_o6 : Fr [(0, 0), (1, 9999), (3, 9999), (4, 9999)] o o6 := Fr.tr fr_o fc_o6 rfl
                  refine T_some ?_
                  show BoxM o6 ∧ (Fr [(0, 0), (1, 9999), (3, 9999), (4, 9999)] o o6)
                  exact ⟨hB_o6, fr_o6⟩
                ·
                  have js19 := jl_sum (by first | exact ⟨by omega, by omega⟩) (by first | exact ⟨by omega, by omega⟩) (by first | exact ⟨by omega, by omega⟩) h17
                  refine T_qIn ⟨by omega, by omega⟩ ?_
                  refine T_qNm (fun n27 e_n27 => ?_)
                  have b_n27 : -9 ≤ n27 ∧ n27 ≤ 40 := by rw [e_n27]; exact bM_2 hB_o _
                  refine T_qJl (fun h20 => ?_) (fun h20 => ?_)
                  ·
                    unfold b_X12_copy_95
                    refine T_qB2 (t_X12_meets o 2 hB_o (by omega)) (fun r4 o6 hc_r4 hp21 => ?_)
                    replace hp21 : BoxM o6 ∧ (Fr [(0, 0), (1, 9999)] o o6) ∧ (r4 = -3) := hp21
                    obtain ⟨hB_o6, fc_o6, hp21⟩ := hp21
                    have fr_o6 : Fr [(0, 0), (1, 9999), (3, 9999), (4, 9999)] o o6 := Fr.tr fr_o fc_o6 rfl
                    refine T_some ?_
                    show BoxM o6 ∧ (Fr [(0, 0), (1, 9999), (3, 9999), (4, 9999)] o o6)
                    exact ⟨hB_o6, fr_o6⟩
                  ·
                    have js22 := jl_sum (by first | exact ⟨by omega, by omega⟩) (by first | exact ⟨by omega, by omega⟩) (by first | exact ⟨by omega, by omega⟩) h20
                    unfold e_X12_copy_104
                    refine T_qB (tl_X12_copy_104 x1 x2 x3 x4 x5 o 0 hB_o (by omega) (by omega) (by omega) (by omega) (by omega) (by omega) (by omega) (by omega) (by omega) (by omega) (by omega) (by omega) (by omega)) (fun r23 hc_r23 hp24 => ?_)
                    obtain ⟨o_25, q_o_25⟩ : ∃ q, q = r23 := ⟨_, rfl⟩
                    subst q_o_25
                    replace hp24 : BoxM o_25 ∧ (Fr [(4, 9999)] o o_25) := hp24
                    have hps_hp24 := hp24
                    obtain ⟨hp24_0, hp24_1⟩ := hps_hp24
                    obtain ⟨hB_o_25, fc_o_25⟩ := hp24
                    have fr_o_25 : Fr [(0, 0), (1, 9999), (3, 9999), (4, 9999)] o o_25 := Fr.tr fr_o fc_o_25 rfl
                    show T (b_X12_copy_138 o_25 x3 x4 x5) _
                    unfold b_X12_copy_138
                    unfold e_X12_copy_141
                    refine T_qB (tl_X12_copy_141 x3 x4 x5 o_25 0 hB_o_25 (by omega) (by omega) (by omega) (by omega) (by omega) (by omega) (by omega) (by omega)) (fun r26 hc_r26 hp27 => ?_)
                    obtain ⟨o_28, q_o_28⟩ : ∃ q, q = r26 := ⟨_, rfl⟩
                    subst q_o_28
                    replace hp27 : BoxM o_28 ∧ (Fr [(3, 9999)] o_25 o_28) := hp27
                    have hps_hp27 := hp27
                    obtain ⟨hp27_0, hp27_1⟩ := hps_hp27
                    obtain ⟨hB_o_28, fc_o_28⟩ := hp27
                    have fr_o_28 : Fr [(0, 0), (1, 9999), (3, 9999), (4, 9999)] o o_28 := Fr.tr fr_o_25 fc_o_28 rfl
                    show T (b_X12_copy_176 o_28) _
                    unfold b_X12_copy_176
                    refine T_some ?_
                    show BoxM o_28 ∧ (Fr [(0, 0), (1, 9999), (3, 9999), (4, 9999)] o o_28)
                    exact ⟨hB_o_28, fr_o_28⟩
set_option maxRecDepth 20000 in
set_option maxHeartbeats 4000000 in
theorem t_X12_cost (o : OO) (x1 : Int) (hB_o : BoxM o) (k0 : inR x1) : T (s_X12_cost o x1) (fun v => BoxM v.2 ∧ (Fr [(0, 0), (1, 9999)] o v.2)) := by
  have fr_o : Fr [(0, 0), (1, 9999)] o o := Fr.rf
  have g0_32_o := bM_0_32 hB_o
  unfold s_X12_cost
  refine T_qB2 (t_X12_askedLine o x1 hB_o (by omega)) (fun r1 o3 hc_r1 hp1 => ?_)
  replace hp1 : BoxM o3 ∧ (Fr [(0, 0), (1, 9999)] o o3) ∧ (r1 = -1 ∨ r1 = -3 ∨ (r1 = 0 ∧ 0 ≤ x1 ∧ x1 < o.1 0 32)) := hp1
  obtain ⟨hB_o3, fc_o3, hp1⟩ := hp1
  have fr_o3 : Fr [(0, 0), (1, 9999)] o o3 := Fr.tr fr_o fc_o3 rfl
  have g0_32_o3 : o3.1 0 32 = o.1 0 32 := fc_o3.1 0 32 rfl
  refine T_qLt ⟨by omega, by omega⟩ ⟨by decide, by decide⟩ (fun h2 => ?_) (fun h2 => ?_)
  ·
    unfold b_X12_cost_20
    refine T_some ?_
    show BoxM o3 ∧ (Fr [(0, 0), (1, 9999)] o o3)
    exact ⟨hB_o3, fr_o3⟩
  ·
    refine T_qIn ⟨by omega, by omega⟩ ?_
    refine T_qNm (fun n5 e_n5 => ?_)
    have b_n5 : 0 ≤ n5 ∧ n5 ≤ 1000000 := by rw [e_n5]; exact bM_28 hB_o3 _
    unfold b_X12_cost_20
    refine T_some ?_
    show BoxM o3 ∧ (Fr [(0, 0), (1, 9999)] o o3)
    exact ⟨hB_o3, fr_o3⟩
set_option maxRecDepth 20000 in
set_option maxHeartbeats 4000000 in
theorem tl_X12_counts_154 (o : OO) (i_x2 : Int) (i_x3 : Int) (hB_o : BoxM o) (v0 : 0 ≤ i_x2 ∧ i_x2 ≤ i_x3) (v1 : 0 ≤ i_x3 ∧ i_x3 ≤ 6) : T (loopW (fun s => l_X12_counts_154 o s.1 s.2) (i_x2, i_x3)) (fun r => (0 ≤ r ∧ r ≤ 6)) := by
  refine T_loop (fun s => (0 ≤ s.1 ∧ s.1 ≤ s.2) ∧ (0 ≤ s.2 ∧ s.2 ≤ 6)) (fun s => (6 - s.2).toNat) (by exact ⟨v0, v1⟩) (fun s hs => ?_)
  obtain ⟨x2, x3⟩ := s
  replace hs : (0 ≤ x2 ∧ x2 ≤ x3) ∧ (0 ≤ x3 ∧ x3 ≤ 6) := hs
  obtain ⟨w0, w1⟩ := hs
  have g0_17_o := bM_0_17 hB_o
  have g0_27_o := bM_0_27 hB_o
  have g0_4_o := bM_0_4 hB_o
  have g0_10_o := bM_0_10 hB_o
  have g0_32_o := bM_0_32 hB_o
  have g0_48_o := bM_0_48 hB_o
  have g0_23_o := bM_0_23 hB_o
  show T (l_X12_counts_154 o x2 x3) _
  unfold l_X12_counts_154
  refine T_qLt ⟨by omega, by omega⟩ ⟨by decide, by decide⟩ (fun h1 => ?_) (fun h1 => ?_)
  ·
    refine T_qIn ⟨by omega, by omega⟩ ?_
    refine T_qNm (fun n9 e_n9 => ?_)
    have b_n9 : -9 ≤ n9 ∧ n9 ≤ 40 := by rw [e_n9]; exact bM_2 hB_o _
    refine T_qLt ⟨by omega, by omega⟩ ⟨by decide, by decide⟩ (fun h2 => ?_) (fun h2 => ?_)
    ·
      unfold b_X12_counts_175
      refine T_qNm (fun n7 e_n7 => ?_)
      refine T_some ?_
      show ((0 ≤ n7 ∧ n7 ≤ (x3 + 1)) ∧ (0 ≤ (x3 + 1) ∧ (x3 + 1) ≤ 6)) ∧ (6 - (x3 + 1)).toNat < (6 - x3).toNat
      exact ⟨⟨(by omega), (by omega)⟩, by omega⟩
    ·
      unfold b_X12_counts_175
      refine T_qNm (fun n7 e_n7 => ?_)
      refine T_some ?_
      show ((0 ≤ n7 ∧ n7 ≤ (x3 + 1)) ∧ (0 ≤ (x3 + 1) ∧ (x3 + 1) ≤ 6)) ∧ (6 - (x3 + 1)).toNat < (6 - x3).toNat
      exact ⟨⟨(by omega), (by omega)⟩, by omega⟩
  ·
    refine T_some ?_
    show (0 ≤ x2 ∧ x2 ≤ 6)
    exact (by omega)
set_option maxRecDepth 20000 in
set_option maxHeartbeats 4000000 in
theorem tl_X12_counts_187 (o : OO) (i_x2 : Int) (i_x3 : Int) (hB_o : BoxM o) (v0 : 0 ≤ i_x2 ∧ i_x2 ≤ i_x3) (v1 : 0 ≤ i_x3 ∧ i_x3 ≤ 4) : T (loopW (fun s => l_X12_counts_187 o s.1 s.2) (i_x2, i_x3)) (fun r => (0 ≤ r ∧ r ≤ 4)) := by
  refine T_loop (fun s => (0 ≤ s.1 ∧ s.1 ≤ s.2) ∧ (0 ≤ s.2 ∧ s.2 ≤ 4)) (fun s => (4 - s.2).toNat) (by exact ⟨v0, v1⟩) (fun s hs => ?_)
  obtain ⟨x2, x3⟩ := s
  replace hs : (0 ≤ x2 ∧ x2 ≤ x3) ∧ (0 ≤ x3 ∧ x3 ≤ 4) := hs
  obtain ⟨w0, w1⟩ := hs
  have g0_17_o := bM_0_17 hB_o
  have g0_27_o := bM_0_27 hB_o
  have g0_4_o := bM_0_4 hB_o
  have g0_10_o := bM_0_10 hB_o
  have g0_32_o := bM_0_32 hB_o
  have g0_48_o := bM_0_48 hB_o
  have g0_23_o := bM_0_23 hB_o
  show T (l_X12_counts_187 o x2 x3) _
  unfold l_X12_counts_187
  refine T_qLt ⟨by omega, by omega⟩ ⟨by decide, by decide⟩ (fun h3 => ?_) (fun h3 => ?_)
  ·
    refine T_qIn ⟨by omega, by omega⟩ ?_
    refine T_qNm (fun n12 e_n12 => ?_)
    have b_n12 : -9 ≤ n12 ∧ n12 ≤ 40 := by rw [e_n12]; exact bM_5 hB_o _
    refine T_qLt ⟨by omega, by omega⟩ ⟨by decide, by decide⟩ (fun h4 => ?_) (fun h4 => ?_)
    ·
      unfold b_X12_counts_207
      refine T_qNm (fun n10 e_n10 => ?_)
      refine T_some ?_
      show ((0 ≤ n10 ∧ n10 ≤ (x3 + 1)) ∧ (0 ≤ (x3 + 1) ∧ (x3 + 1) ≤ 4)) ∧ (4 - (x3 + 1)).toNat < (4 - x3).toNat
      exact ⟨⟨(by omega), (by omega)⟩, by omega⟩
    ·
      unfold b_X12_counts_207
      refine T_qNm (fun n10 e_n10 => ?_)
      refine T_some ?_
      show ((0 ≤ n10 ∧ n10 ≤ (x3 + 1)) ∧ (0 ≤ (x3 + 1) ∧ (x3 + 1) ≤ 4)) ∧ (4 - (x3 + 1)).toNat < (4 - x3).toNat
      exact ⟨⟨(by omega), (by omega)⟩, by omega⟩
  ·
    refine T_some ?_
    show (0 ≤ x2 ∧ x2 ≤ 4)
    exact (by omega)
set_option maxRecDepth 20000 in
set_option maxHeartbeats 4000000 in
theorem tl_X12_counts_59 (o : OO) (i_x2 : Int) (i_x3 : Int) (hB_o : BoxM o) (v0 : 0 ≤ i_x2 ∧ i_x2 ≤ i_x3) (v1 : 0 ≤ i_x3 ∧ i_x3 ≤ o.1 0 17) : T (loopW (fun s => l_X12_counts_59 o s.1 s.2) (i_x2, i_x3)) (fun r => (0 ≤ r ∧ r ≤ o.1 0 17)) := by
  refine T_loop (fun s => (0 ≤ s.1 ∧ s.1 ≤ s.2) ∧ (0 ≤ s.2 ∧ s.2 ≤ o.1 0 17)) (fun s => (o.1 0 17 - s.2).toNat) (by exact ⟨v0, v1⟩) (fun s hs => ?_)
  obtain ⟨x2, x3⟩ := s
  replace hs : (0 ≤ x2 ∧ x2 ≤ x3) ∧ (0 ≤ x3 ∧ x3 ≤ o.1 0 17) := hs
  obtain ⟨w0, w1⟩ := hs
  have g0_17_o := bM_0_17 hB_o
  have g0_27_o := bM_0_27 hB_o
  have g0_4_o := bM_0_4 hB_o
  have g0_10_o := bM_0_10 hB_o
  have g0_32_o := bM_0_32 hB_o
  have g0_48_o := bM_0_48 hB_o
  have g0_23_o := bM_0_23 hB_o
  show T (l_X12_counts_59 o x2 x3) _
  unfold l_X12_counts_59
  refine T_qLt ⟨by omega, by omega⟩ ⟨by omega, by omega⟩ (fun h5 => ?_) (fun h5 => ?_)
  ·
    refine T_qIn ⟨by omega, by omega⟩ ?_
    refine T_qNm (fun n3 e_n3 => ?_)
    have b_n3 : 0 ≤ n3 ∧ n3 ≤ 1 := by rw [e_n3]; exact bM_16 hB_o _
    refine T_qEq ⟨by omega, by omega⟩ ⟨by decide, by decide⟩ (fun h6 => ?_) (fun h6 => ?_)
    ·
      unfold b_X12_counts_82
      refine T_qNm (fun n1 e_n1 => ?_)
      refine T_some ?_
      show ((0 ≤ n1 ∧ n1 ≤ (x3 + 1)) ∧ (0 ≤ (x3 + 1) ∧ (x3 + 1) ≤ o.1 0 17)) ∧ (o.1 0 17 - (x3 + 1)).toNat < (o.1 0 17 - x3).toNat
      exact ⟨⟨(by omega), (by omega)⟩, by omega⟩
    ·
      unfold b_X12_counts_82
      refine T_qNm (fun n1 e_n1 => ?_)
      refine T_some ?_
      show ((0 ≤ n1 ∧ n1 ≤ (x3 + 1)) ∧ (0 ≤ (x3 + 1) ∧ (x3 + 1) ≤ o.1 0 17)) ∧ (o.1 0 17 - (x3 + 1)).toNat < (o.1 0 17 - x3).toNat
      exact ⟨⟨(by omega), (by omega)⟩, by omega⟩
  ·
    refine T_some ?_
    show (0 ≤ x2 ∧ x2 ≤ o.1 0 17)
    exact (by omega)
set_option maxRecDepth 20000 in
set_option maxHeartbeats 4000000 in
theorem tl_X12_counts_99 (o : OO) (i_x2 : Int) (i_x3 : Int) (hB_o : BoxM o) (v0 : 0 ≤ i_x2 ∧ i_x2 ≤ i_x3) (v1 : 0 ≤ i_x3 ∧ i_x3 ≤ o.1 0 27) : T (loopW (fun s => l_X12_counts_99 o s.1 s.2) (i_x2, i_x3)) (fun r => (0 ≤ r ∧ r ≤ o.1 0 27)) := by
  refine T_loop (fun s => (0 ≤ s.1 ∧ s.1 ≤ s.2) ∧ (0 ≤ s.2 ∧ s.2 ≤ o.1 0 27)) (fun s => (o.1 0 27 - s.2).toNat) (by exact ⟨v0, v1⟩) (fun s hs => ?_)
  obtain ⟨x2, x3⟩ := s
  replace hs : (0 ≤ x2 ∧ x2 ≤ x3) ∧ (0 ≤ x3 ∧ x3 ≤ o.1 0 27) := hs
  obtain ⟨w0, w1⟩ := hs
  have g0_17_o := bM_0_17 hB_o
  have g0_27_o := bM_0_27 hB_o
  have g0_4_o := bM_0_4 hB_o
  have g0_10_o := bM_0_10 hB_o
  have g0_32_o := bM_0_32 hB_o
  have g0_48_o := bM_0_48 hB_o
  have g0_23_o := bM_0_23 hB_o
  show T (l_X12_counts_99 o x2 x3) _
  unfold l_X12_counts_99
  refine T_qLt ⟨by omega, by omega⟩ ⟨by omega, by omega⟩ (fun h7 => ?_) (fun h7 => ?_)
  ·
    refine T_qIn ⟨by omega, by omega⟩ ?_
    refine T_qNm (fun n6 e_n6 => ?_)
    have b_n6 : -9 ≤ n6 ∧ n6 ≤ 31 := by rw [e_n6]; exact bM_21 hB_o _
    refine T_qLt ⟨by omega, by omega⟩ ⟨by decide, by decide⟩ (fun h8 => ?_) (fun h8 => ?_)
    ·
      unfold b_X12_counts_122
      refine T_qNm (fun n4 e_n4 => ?_)
      refine T_some ?_
      show ((0 ≤ n4 ∧ n4 ≤ (x3 + 1)) ∧ (0 ≤ (x3 + 1) ∧ (x3 + 1) ≤ o.1 0 27)) ∧ (o.1 0 27 - (x3 + 1)).toNat < (o.1 0 27 - x3).toNat
      exact ⟨⟨(by omega), (by omega)⟩, by omega⟩
    ·
      unfold b_X12_counts_122
      refine T_qNm (fun n4 e_n4 => ?_)
      refine T_some ?_
      show ((0 ≤ n4 ∧ n4 ≤ (x3 + 1)) ∧ (0 ≤ (x3 + 1) ∧ (x3 + 1) ≤ o.1 0 27)) ∧ (o.1 0 27 - (x3 + 1)).toNat < (o.1 0 27 - x3).toNat
      exact ⟨⟨(by omega), (by omega)⟩, by omega⟩
  ·
    refine T_some ?_
    show (0 ≤ x2 ∧ x2 ≤ o.1 0 27)
    exact (by omega)
set_option maxRecDepth 20000 in
set_option maxHeartbeats 4000000 in
theorem t_X12_counts (o : OO) (x1 : Int) (hB_o : BoxM o) (k0 : 0 ≤ x1 ∧ x1 ≤ 9) : T (s_X12_counts o x1) (fun v => (inR v)) := by
  have g0_17_o := bM_0_17 hB_o
  have g0_27_o := bM_0_27 hB_o
  have g0_4_o := bM_0_4 hB_o
  have g0_10_o := bM_0_10 hB_o
  have g0_32_o := bM_0_32 hB_o
  have g0_48_o := bM_0_48 hB_o
  have g0_23_o := bM_0_23 hB_o
  unfold s_X12_counts
  refine T_qEq ⟨by omega, by omega⟩ ⟨by decide, by decide⟩ (fun h9 => ?_) (fun h9 => ?_)
  ·
    refine T_some ?_
    show (inR (o.1 0 4))
    exact (by omega)
  ·
    refine T_qEq ⟨by omega, by omega⟩ ⟨by decide, by decide⟩ (fun h10 => ?_) (fun h10 => ?_)
    ·
      unfold e_X12_counts_59
      refine T_qB (tl_X12_counts_59 o 0 0 hB_o (by omega) (by omega)) (fun r11 hc_r11 hp12 => ?_)
      obtain ⟨x2_13, q_x2_13⟩ : ∃ q, q = r11 := ⟨_, rfl⟩
      subst q_x2_13
      replace hp12 : (0 ≤ x2_13 ∧ x2_13 ≤ o.1 0 17) := hp12
      show T (b_X12_counts_90 o x2_13) _
      unfold b_X12_counts_90
      refine T_some ?_
      show (inR x2_13)
      exact (by omega)
    ·
      refine T_qEq ⟨by omega, by omega⟩ ⟨by decide, by decide⟩ (fun h14 => ?_) (fun h14 => ?_)
      ·
        refine T_some ?_
        show (inR (o.1 0 27))
        exact (by omega)
      ·
        refine T_qEq ⟨by omega, by omega⟩ ⟨by decide, by decide⟩ (fun h15 => ?_) (fun h15 => ?_)
        ·
          unfold e_X12_counts_99
          refine T_qB (tl_X12_counts_99 o 0 0 hB_o (by omega) (by omega)) (fun r16 hc_r16 hp17 => ?_)
          obtain ⟨x2_18, q_x2_18⟩ : ∃ q, q = r16 := ⟨_, rfl⟩
          subst q_x2_18
          replace hp17 : (0 ≤ x2_18 ∧ x2_18 ≤ o.1 0 27) := hp17
          show T (b_X12_counts_130 o x2_18) _
          unfold b_X12_counts_130
          refine T_some ?_
          show (inR x2_18)
          exact (by omega)
        ·
          refine T_qEq ⟨by omega, by omega⟩ ⟨by decide, by decide⟩ (fun h19 => ?_) (fun h19 => ?_)
          ·
            refine T_some ?_
            show (inR (o.1 0 10))
            exact (by omega)
          ·
            refine T_qEq ⟨by omega, by omega⟩ ⟨by decide, by decide⟩ (fun h20 => ?_) (fun h20 => ?_)
            ·
              refine T_some ?_
              show (inR (o.1 0 32))
              exact (by omega)
            ·
              refine T_qEq ⟨by omega, by omega⟩ ⟨by decide, by decide⟩ (fun h21 => ?_) (fun h21 => ?_)
              ·
                refine T_some ?_
                show (inR (o.1 0 48))
                exact (by omega)
              ·
                refine T_qEq ⟨by omega, by omega⟩ ⟨by decide, by decide⟩ (fun h22 => ?_) (fun h22 => ?_)
                ·
                  refine T_some ?_
                  show (inR (o.1 0 23))
                  exact (by omega)
                ·
                  refine T_qEq ⟨by omega, by omega⟩ ⟨by decide, by decide⟩ (fun h23 => ?_) (fun h23 => ?_)
                  ·
                    unfold e_X12_counts_154
                    refine T_qB (tl_X12_counts_154 o 0 0 hB_o (by omega) (by omega)) (fun r24 hc_r24 hp25 => ?_)
                    obtain ⟨x2_26, q_x2_26⟩ : ∃ q, q = r24 := ⟨_, rfl⟩
                    subst q_x2_26
                    replace hp25 : (0 ≤ x2_26 ∧ x2_26 ≤ 6) := hp25
                    show T (b_X12_counts_183 o x2_26) _
                    unfold b_X12_counts_183
                    refine T_some ?_
                    show (inR x2_26)
                    exact (by omega)
                  ·
                    unfold e_X12_counts_187
                    refine T_qB (tl_X12_counts_187 o 0 0 hB_o (by omega) (by omega)) (fun r27 hc_r27 hp28 => ?_)
                    obtain ⟨x2_29, q_x2_29⟩ : ∃ q, q = r27 := ⟨_, rfl⟩
                    subst q_x2_29
                    replace hp28 : (0 ≤ x2_29 ∧ x2_29 ≤ 4) := hp28
                    show T (b_X12_counts_215 o x2_29) _
                    unfold b_X12_counts_215
                    refine T_some ?_
                    show (inR x2_29)
                    exact (by omega)
set_option maxRecDepth 20000 in
set_option maxHeartbeats 4000000 in
theorem t_X12_count (o : OO) (x1 : Int) (hB_o : BoxM o) (k0 : inR x1) : T (s_X12_count o x1) (fun _ => True) := by
  unfold s_X12_count
  refine T_qB (t_X12_in x1 0 9 (by omega) (by omega) (by omega)) (fun r1 hc_r1 hp1 => ?_)
  replace hp1 : ((r1 = 1 ∧ 0 ≤ x1 ∧ x1 ≤ 9) ∨ (r1 = 0 ∧ (x1 < 0 ∨ 9 < x1))) := hp1
  refine T_qEq ⟨by omega, by omega⟩ ⟨by decide, by decide⟩ (fun h2 => ?_) (fun h2 => ?_)
  ·
    unfold b_X12_count_19
    refine T_some ?_
    show True
    exact trivial
  ·
    refine T_qB (t_X12_counts o x1 hB_o (by omega)) (fun r3 hc_r3 hp3 => ?_)
    replace hp3 : (inR r3) := hp3
    unfold b_X12_count_19
    refine T_some ?_
    show True
    exact trivial
set_option maxRecDepth 20000 in
set_option maxHeartbeats 4000000 in
theorem t_X12_mix (o : OO) (x1 : Int) (hB_o : BoxM o) : T (s_X12_mix o x1) (fun v => BoxM v ∧ (Fr [(0, 76)] o v)) := by
  have fr_o : Fr [(0, 76)] o o := Fr.rf
  unfold s_X12_mix
  refine T_qNm (fun o1 e_o1 => ?_)
  have hB_o1 : BoxM o1 := by rw [e_o1]; exact Box.s2 hB_o
  have fr_o1 : Fr [(0, 76)] o o1 := by rw [e_o1]; exact Fr.s2 fr_o rfl
  refine T_some ?_
  show BoxM o1 ∧ (Fr [(0, 76)] o o1)
  exact ⟨hB_o1, fr_o1⟩
set_option maxRecDepth 20000 in
set_option maxHeartbeats 4000000 in
theorem t_X12_houseTells (o : OO) (x1 : Int) (x2 : Int) (hB_o : BoxM o) (k0 : 0 ≤ x1 ∧ x1 ≤ 31) (k1 : inR x2) : T (s_X12_houseTells o x1 x2) (fun v => (inR v)) := by
  unfold s_X12_houseTells
  refine T_qEq ⟨by omega, by omega⟩ ⟨by decide, by decide⟩ (fun h1 => ?_) (fun h1 => ?_)
  ·
    refine T_qIn ⟨by omega, by omega⟩ ?_
    refine T_qNm (fun n2 e_n2 => ?_)
    have b_n2 : 0 ≤ n2 ∧ n2 ≤ 63 := by rw [e_n2]; exact bM_13 hB_o _
    refine T_some ?_
    show (inR n2)
    exact (by omega)
  ·
    refine T_qEq ⟨by omega, by omega⟩ ⟨by decide, by decide⟩ (fun h2 => ?_) (fun h2 => ?_)
    ·
      refine T_qIn ⟨by omega, by omega⟩ ?_
      refine T_qNm (fun n4 e_n4 => ?_)
      have b_n4 : 0 ≤ n4 ∧ n4 ≤ 2 := by rw [e_n4]; exact bM_14 hB_o _
      refine T_some ?_
      show (inR n4)
      exact (by omega)
    ·
      refine T_qEq ⟨by omega, by omega⟩ ⟨by decide, by decide⟩ (fun h3 => ?_) (fun h3 => ?_)
      ·
        refine T_qIn ⟨by omega, by omega⟩ ?_
        refine T_qNm (fun n6 e_n6 => ?_)
        have b_n6 : 0 ≤ n6 ∧ n6 ≤ 20 := by rw [e_n6]; exact bM_15 hB_o _
        refine T_some ?_
        show (inR n6)
        exact (by omega)
      ·
        refine T_qEq ⟨by omega, by omega⟩ ⟨by decide, by decide⟩ (fun h4 => ?_) (fun h4 => ?_)
        ·
          refine T_qB (t_X12_living o x1 hB_o (by omega)) (fun r7 hc_r7 hp5 => ?_)
          replace hp5 : (0 ≤ r7 ∧ r7 ≤ 40) := hp5
          refine T_some ?_
          show (inR r7)
          exact (by omega)
        ·
          refine T_qEq ⟨by omega, by omega⟩ ⟨by decide, by decide⟩ (fun h6 => ?_) (fun h6 => ?_)
          ·
            refine T_qIn ⟨by omega, by omega⟩ ?_
            refine T_qNm (fun n10 e_n10 => ?_)
            have b_n10 : 0 ≤ n10 ∧ n10 ≤ 1 := by rw [e_n10]; exact bM_16 hB_o _
            refine T_qEq ⟨by omega, by omega⟩ ⟨by decide, by decide⟩ (fun h7 => ?_) (fun h7 => ?_)
            ·
              unfold b_X12_houseTells_77
              refine T_some ?_
              show (inR 0)
              exact (by omega)
            ·
              unfold b_X12_houseTells_77
              refine T_some ?_
              show (inR 1)
              exact (by omega)
          ·
            refine T_qIn ⟨by omega, by omega⟩ ?_
            refine T_qNm (fun n12 e_n12 => ?_)
            have b_n12 : -9 ≤ n12 ∧ n12 ≤ 39 := by rw [e_n12]; exact bM_17 hB_o _
            refine T_some ?_
            show (inR n12)
            exact (by omega)
set_option maxRecDepth 20000 in
set_option maxHeartbeats 4000000 in
theorem tl_X12_valueOf_6 (o : OO) (x1 : Int) (x2 : Int) (i_x3 : Int) (i_x4 : Int) (hB_o : BoxM o) (k0 : inR x1) (k1 : inR x2) (v0 : 0 ≤ i_x4 ∧ i_x4 ≤ o.1 0 23) (v1 : -9 ≤ i_x3 ∧ i_x3 ≤ 100000) (v2 : i_x3 = -9 ∨ 0 ≤ i_x3) : T (loopW (fun s => l_X12_valueOf_6 o x1 x2 s.1 s.2) (i_x3, i_x4)) (fun r => (-9 ≤ r ∧ r ≤ 100000) ∧ (r = -9 ∨ 0 ≤ r)) := by
  refine T_loop (fun s => (0 ≤ s.2 ∧ s.2 ≤ o.1 0 23) ∧ (-9 ≤ s.1 ∧ s.1 ≤ 100000) ∧ (s.1 = -9 ∨ 0 ≤ s.1)) (fun s => (o.1 0 23 - s.2).toNat) (by exact ⟨v0, v1, v2⟩) (fun s hs => ?_)
  obtain ⟨x3, x4⟩ := s
  replace hs : (0 ≤ x4 ∧ x4 ≤ o.1 0 23) ∧ (-9 ≤ x3 ∧ x3 ≤ 100000) ∧ (x3 = -9 ∨ 0 ≤ x3) := hs
  obtain ⟨w0, w1, w2⟩ := hs
  have g0_23_o := bM_0_23 hB_o
  show T (l_X12_valueOf_6 o x1 x2 x3 x4) _
  unfold l_X12_valueOf_6
  refine T_qLt ⟨by omega, by omega⟩ ⟨by omega, by omega⟩ (fun h1 => ?_) (fun h1 => ?_)
  ·
    refine T_qIn ⟨by omega, by omega⟩ ?_
    refine T_qNm (fun n2 e_n2 => ?_)
    have b_n2 : 0 ≤ n2 ∧ n2 ≤ 31 := by rw [e_n2]; exact bM_18 hB_o _
    refine T_qEq ⟨by omega, by omega⟩ ⟨by omega, by omega⟩ (fun h2 => ?_) (fun h2 => ?_)
    ·
      refine T_qIn ⟨by omega, by omega⟩ ?_
      refine T_qNm (fun n4 e_n4 => ?_)
      have b_n4 : 0 ≤ n4 ∧ n4 ≤ 999 := by rw [e_n4]; exact bM_19 hB_o _
      refine T_qLt ⟨by omega, by omega⟩ ⟨by omega, by omega⟩ (fun h3 => ?_) (fun h3 => ?_)
      ·
        unfold b_X12_valueOf_47
        unfold b_X12_valueOf_48
        refine T_some ?_
        show ((0 ≤ (x4 + 1) ∧ (x4 + 1) ≤ o.1 0 23) ∧ (-9 ≤ x3 ∧ x3 ≤ 100000) ∧ (x3 = -9 ∨ 0 ≤ x3)) ∧ (o.1 0 23 - (x4 + 1)).toNat < (o.1 0 23 - x4).toNat
        exact ⟨⟨(by omega), (by omega), (by omega)⟩, by omega⟩
      ·
        refine T_qIn ⟨by omega, by omega⟩ ?_
        refine T_qNm (fun n6 e_n6 => ?_)
        have b_n6 : 0 ≤ n6 ∧ n6 ≤ 100000 := by rw [e_n6]; exact bM_20 hB_o _
        unfold b_X12_valueOf_48
        refine T_some ?_
        show ((0 ≤ (x4 + 1) ∧ (x4 + 1) ≤ o.1 0 23) ∧ (-9 ≤ n6 ∧ n6 ≤ 100000) ∧ (n6 = -9 ∨ 0 ≤ n6)) ∧ (o.1 0 23 - (x4 + 1)).toNat < (o.1 0 23 - x4).toNat
        exact ⟨⟨(by omega), (by omega), (by omega)⟩, by omega⟩
    ·
      unfold b_X12_valueOf_47
      unfold b_X12_valueOf_48
      refine T_some ?_
      show ((0 ≤ (x4 + 1) ∧ (x4 + 1) ≤ o.1 0 23) ∧ (-9 ≤ x3 ∧ x3 ≤ 100000) ∧ (x3 = -9 ∨ 0 ≤ x3)) ∧ (o.1 0 23 - (x4 + 1)).toNat < (o.1 0 23 - x4).toNat
      exact ⟨⟨(by omega), (by omega), (by omega)⟩, by omega⟩
  ·
    refine T_some ?_
    show (-9 ≤ x3 ∧ x3 ≤ 100000) ∧ (x3 = -9 ∨ 0 ≤ x3)
    exact ⟨(by omega), (by omega)⟩
set_option maxRecDepth 20000 in
set_option maxHeartbeats 4000000 in
theorem t_X12_valueOf (o : OO) (x1 : Int) (x2 : Int) (hB_o : BoxM o) (k0 : inR x1) (k1 : inR x2) : T (s_X12_valueOf o x1 x2) (fun v => (-9 ≤ v ∧ v ≤ 100000) ∧ (v = -9 ∨ 0 ≤ v)) := by
  have g0_23_o := bM_0_23 hB_o
  unfold s_X12_valueOf
  unfold e_X12_valueOf_6
  refine T_qB (tl_X12_valueOf_6 o x1 x2 (-9) 0 hB_o (by omega) (by omega) (by omega) (by omega) (by omega)) (fun r4 hc_r4 hp5 => ?_)
  obtain ⟨x3_6, q_x3_6⟩ : ∃ q, q = r4 := ⟨_, rfl⟩
  subst q_x3_6
  replace hp5 : (-9 ≤ x3_6 ∧ x3_6 ≤ 100000) ∧ (x3_6 = -9 ∨ 0 ≤ x3_6) := hp5
  have hps_hp5 := hp5
  obtain ⟨hp5_0, hp5_1⟩ := hps_hp5
  replace hp5 := hid hp5
  show T (b_X12_valueOf_55 o x3_6) _
  unfold b_X12_valueOf_55
  refine T_some ?_
  show (-9 ≤ x3_6 ∧ x3_6 ≤ 100000) ∧ (x3_6 = -9 ∨ 0 ≤ x3_6)
  exact ⟨(by omega), (by omega)⟩
set_option maxRecDepth 20000 in
set_option maxHeartbeats 4000000 in
theorem t_X12_personTells (o : OO) (x1 : Int) (x2 : Int) (hB_o : BoxM o) (k0 : 0 ≤ x1 ∧ x1 ≤ 39) (k1 : inR x2) : T (s_X12_personTells o x1 x2) (fun v => (inR v)) := by
  unfold s_X12_personTells
  refine T_qEq ⟨by omega, by omega⟩ ⟨by decide, by decide⟩ (fun h1 => ?_) (fun h1 => ?_)
  ·
    refine T_qIn ⟨by omega, by omega⟩ ?_
    refine T_qNm (fun n8 e_n8 => ?_)
    have b_n8 : -9 ≤ n8 ∧ n8 ≤ 31 := by rw [e_n8]; exact bM_21 hB_o _
    unfold b_X12_personTells_55
    refine T_some ?_
    show (inR n8)
    exact (by omega)
  ·
    refine T_qEq ⟨by omega, by omega⟩ ⟨by decide, by decide⟩ (fun h2 => ?_) (fun h2 => ?_)
    ·
      refine T_qIn ⟨by omega, by omega⟩ ?_
      refine T_qNm (fun n6 e_n6 => ?_)
      have b_n6 : -9 ≤ n6 ∧ n6 ≤ 63 := by rw [e_n6]; exact bM_22 hB_o _
      unfold b_X12_personTells_55
      refine T_some ?_
      show (inR n6)
      exact (by omega)
    ·
      refine T_qEq ⟨by omega, by omega⟩ ⟨by decide, by decide⟩ (fun h3 => ?_) (fun h3 => ?_)
      ·
        refine T_qIn ⟨by omega, by omega⟩ ?_
        refine T_qNm (fun n4 e_n4 => ?_)
        have b_n4 : 0 ≤ n4 ∧ n4 ≤ 1 := by rw [e_n4]; exact bM_23 hB_o _
        refine T_qEq ⟨by omega, by omega⟩ ⟨by decide, by decide⟩ (fun h4 => ?_) (fun h4 => ?_)
        ·
          unfold b_X12_personTells_55
          refine T_some ?_
          show (inR 0)
          exact (by omega)
        ·
          unfold b_X12_personTells_55
          refine T_some ?_
          show (inR 1)
          exact (by omega)
      ·
        refine T_qIn ⟨by omega, by omega⟩ ?_
        refine T_qNm (fun n2 e_n2 => ?_)
        have b_n2 : 0 ≤ n2 ∧ n2 ≤ 9 := by rw [e_n2]; exact bM_24 hB_o _
        unfold b_X12_personTells_55
        refine T_some ?_
        show (inR n2)
        exact (by omega)
set_option maxRecDepth 20000 in
set_option maxHeartbeats 4000000 in
theorem t_X12_markTells (o : OO) (x1 : Int) (x2 : Int) (hB_o : BoxM o) (k0 : 0 ≤ x1 ∧ x1 ≤ 23) (k1 : inR x2) : T (s_X12_markTells o x1 x2) (fun v => (inR v)) := by
  unfold s_X12_markTells
  refine T_qEq ⟨by omega, by omega⟩ ⟨by decide, by decide⟩ (fun h1 => ?_) (fun h1 => ?_)
  ·
    refine T_qIn ⟨by omega, by omega⟩ ?_
    refine T_qNm (fun n6 e_n6 => ?_)
    have b_n6 : 0 ≤ n6 ∧ n6 ≤ 6 := by rw [e_n6]; exact bM_25 hB_o _
    unfold b_X12_markTells_33
    refine T_some ?_
    show (inR n6)
    exact (by omega)
  ·
    refine T_qEq ⟨by omega, by omega⟩ ⟨by decide, by decide⟩ (fun h2 => ?_) (fun h2 => ?_)
    ·
      refine T_qIn ⟨by omega, by omega⟩ ?_
      refine T_qNm (fun n4 e_n4 => ?_)
      have b_n4 : 0 ≤ n4 ∧ n4 ≤ 999 := by rw [e_n4]; exact bM_26 hB_o _
      unfold b_X12_markTells_33
      refine T_some ?_
      show (inR n4)
      exact (by omega)
    ·
      refine T_qIn ⟨by omega, by omega⟩ ?_
      refine T_qNm (fun n2 e_n2 => ?_)
      have b_n2 : -9 ≤ n2 ∧ n2 ≤ 23 := by rw [e_n2]; exact bM_27 hB_o _
      unfold b_X12_markTells_33
      refine T_some ?_
      show (inR n2)
      exact (by omega)
set_option maxRecDepth 20000 in
set_option maxHeartbeats 4000000 in
theorem tl_X12_mixMark_2 (x1 : Int) (i_o : OO) (i_x2 : Int) (hB_i_o : BoxM i_o) (k0 : 0 ≤ x1 ∧ x1 ≤ 23) (v0 : 0 ≤ i_x2 ∧ i_x2 ≤ 3) : T (loopW (fun s => l_X12_mixMark_2 x1 s.1 s.2) (i_o, i_x2)) (fun r => BoxM r ∧ (Fr [(0, 76)] i_o r)) := by
  have fr_i_o : Fr [(0, 76)] i_o i_o := Fr.rf
  refine T_loop (fun s => BoxM s.1 ∧ (Fr [(0, 76)] i_o s.1) ∧ (0 ≤ s.2 ∧ s.2 ≤ 3)) (fun s => (3 - s.2).toNat) (by exact ⟨hB_i_o, fr_i_o, v0⟩) (fun s hs => ?_)
  obtain ⟨o, x2⟩ := s
  replace hs : BoxM o ∧ (Fr [(0, 76)] i_o o) ∧ (0 ≤ x2 ∧ x2 ≤ 3) := hs
  obtain ⟨hB_o, fr_o, w0⟩ := hs
  show T (l_X12_mixMark_2 x1 o x2) _
  unfold l_X12_mixMark_2
  refine T_qLt ⟨by decide, by decide⟩ ⟨by omega, by omega⟩ (fun h1 => ?_) (fun h1 => ?_)
  ·
    refine T_some ?_
    show BoxM o ∧ (Fr [(0, 76)] i_o o)
    exact ⟨hB_o, fr_o⟩
  ·
    refine T_qB (t_X12_markTells o x1 x2 hB_o (by omega) (by omega)) (fun r20 hc_r20 hp2 => ?_)
    replace hp2 : (inR r20) := hp2
    refine T_qB (t_X12_mix o r20 hB_o) (fun o24 hc_o24 hp3 => ?_)
    replace hp3 : BoxM o24 ∧ (Fr [(0, 76)] o o24) := hp3
    obtain ⟨hB_o24, fc_o24⟩ := hp3
    have fr_o24 : Fr [(0, 76)] i_o o24 := Fr.tr fr_o fc_o24 rfl
    refine T_some ?_
    show (BoxM o24 ∧ (Fr [(0, 76)] i_o o24) ∧ (0 ≤ (x2 + 1) ∧ (x2 + 1) ≤ 3)) ∧ (3 - (x2 + 1)).toNat < (3 - x2).toNat
    exact ⟨⟨hB_o24, fr_o24, (by omega)⟩, by omega⟩
set_option maxRecDepth 20000 in
set_option maxHeartbeats 4000000 in
theorem tl_X12_mixMark_53 (x1 : Int) (i_o : OO) (i_x2 : Int) (hB_i_o : BoxM i_o) (k0 : 0 ≤ x1 ∧ x1 ≤ 23) (v0 : 0 ≤ i_x2 ∧ i_x2 ≤ 64) : T (loopW (fun s => l_X12_mixMark_53 x1 s.1 s.2) (i_o, i_x2)) (fun r => BoxM r ∧ (Fr [(0, 76)] i_o r)) := by
  have fr_i_o : Fr [(0, 76)] i_o i_o := Fr.rf
  refine T_loop (fun s => BoxM s.1 ∧ (Fr [(0, 76)] i_o s.1) ∧ (0 ≤ s.2 ∧ s.2 ≤ 64)) (fun s => (64 - s.2).toNat) (by exact ⟨hB_i_o, fr_i_o, v0⟩) (fun s hs => ?_)
  obtain ⟨o, x2⟩ := s
  replace hs : BoxM o ∧ (Fr [(0, 76)] i_o o) ∧ (0 ≤ x2 ∧ x2 ≤ 64) := hs
  obtain ⟨hB_o, fr_o, w0⟩ := hs
  show T (l_X12_mixMark_53 x1 o x2) _
  unfold l_X12_mixMark_53
  refine T_qIn ⟨by omega, by omega⟩ ?_
  refine T_qNm (fun n2 e_n2 => ?_)
  have b_n2 : 0 ≤ n2 ∧ n2 ≤ 64 := by rw [e_n2]; exact bM_30 hB_o _
  refine T_qLt ⟨by omega, by omega⟩ ⟨by omega, by omega⟩ (fun h4 => ?_) (fun h4 => ?_)
  ·
    refine T_qIn ⟨by omega, by omega⟩ ?_
    refine T_qNm (fun n4 e_n4 => ?_)
    have b_n4 : 0 ≤ n4 ∧ n4 ≤ 63 := by rw [e_n4]; exact bM_31 hB_o _
    refine T_qB (t_X12_mix o n4 hB_o) (fun o7 hc_o7 hp5 => ?_)
    replace hp5 : BoxM o7 ∧ (Fr [(0, 76)] o o7) := hp5
    obtain ⟨hB_o7, fc_o7⟩ := hp5
    have fr_o7 : Fr [(0, 76)] i_o o7 := Fr.tr fr_o fc_o7 rfl
    refine T_some ?_
    show (BoxM o7 ∧ (Fr [(0, 76)] i_o o7) ∧ (0 ≤ (x2 + 1) ∧ (x2 + 1) ≤ 64)) ∧ (64 - (x2 + 1)).toNat < (64 - x2).toNat
    exact ⟨⟨hB_o7, fr_o7, (by omega)⟩, by omega⟩
  ·
    refine T_some ?_
    show BoxM o ∧ (Fr [(0, 76)] i_o o)
    exact ⟨hB_o, fr_o⟩
set_option maxRecDepth 20000 in
set_option maxHeartbeats 4000000 in
theorem t_X12_mixMark (o : OO) (x1 : Int) (hB_o : BoxM o) (k0 : 0 ≤ x1 ∧ x1 ≤ 23) : T (s_X12_mixMark o x1) (fun v => BoxM v ∧ (Fr [(0, 76)] o v)) := by
  have fr_o : Fr [(0, 76)] o o := Fr.rf
  unfold s_X12_mixMark
  unfold e_X12_mixMark_2
  refine T_qB (tl_X12_mixMark_2 x1 o 0 hB_o (by omega) (by omega)) (fun r6 hc_r6 hp7 => ?_)
  obtain ⟨o_8, q_o_8⟩ : ∃ q, q = r6 := ⟨_, rfl⟩
  subst q_o_8
  replace hp7 : BoxM o_8 ∧ (Fr [(0, 76)] o o_8) := hp7
  have hps_hp7 := hp7
  obtain ⟨hp7_0, hp7_1⟩ := hps_hp7
  obtain ⟨hB_o_8, fc_o_8⟩ := hp7
  have fr_o_8 : Fr [(0, 76)] o o_8 := Fr.tr fr_o fc_o_8 rfl
  show T (b_X12_mixMark_23 o_8 x1) _
  unfold b_X12_mixMark_23
  refine T_qB (t_X12_isLine o_8 x1 hB_o_8 (by omega)) (fun r8 hc_r8 hp9 => ?_)
  replace hp9 : (0 ≤ r8 ∧ r8 ≤ 1) := hp9
  refine T_qEq ⟨by omega, by omega⟩ ⟨by decide, by decide⟩ (fun h10 => ?_) (fun h10 => ?_)
  ·
    unfold b_X12_mixMark_84
    refine T_some ?_
    show BoxM o_8 ∧ (Fr [(0, 76)] o o_8)
    exact ⟨hB_o_8, fr_o_8⟩
  ·
    refine T_qIn ⟨by omega, by omega⟩ ?_
    refine T_qNm (fun n11 e_n11 => ?_)
    have b_n11 : 0 ≤ n11 ∧ n11 ≤ 1000000 := by rw [e_n11]; exact bM_28 hB_o_8 _
    refine T_qB (t_X12_mix o_8 n11 hB_o_8) (fun o14 hc_o14 hp11 => ?_)
    replace hp11 : BoxM o14 ∧ (Fr [(0, 76)] o_8 o14) := hp11
    obtain ⟨hB_o14, fc_o14⟩ := hp11
    have fr_o14 : Fr [(0, 76)] o o14 := Fr.tr fr_o_8 fc_o14 rfl
    refine T_qIn ⟨by omega, by omega⟩ ?_
    refine T_qNm (fun n16 e_n16 => ?_)
    have b_n16 : -9 ≤ n16 ∧ n16 ≤ 999 := by rw [e_n16]; exact bM_29 hB_o14 _
    refine T_qB (t_X12_mix o14 n16 hB_o14) (fun o19 hc_o19 hp12 => ?_)
    replace hp12 : BoxM o19 ∧ (Fr [(0, 76)] o14 o19) := hp12
    obtain ⟨hB_o19, fc_o19⟩ := hp12
    have fr_o19 : Fr [(0, 76)] o o19 := Fr.tr fr_o14 fc_o19 rfl
    unfold e_X12_mixMark_53
    refine T_qB (tl_X12_mixMark_53 x1 o19 0 hB_o19 (by omega) (by omega)) (fun r13 hc_r13 hp14 => ?_)
    obtain ⟨o_15, q_o_15⟩ : ∃ q, q = r13 := ⟨_, rfl⟩
    subst q_o_15
    replace hp14 : BoxM o_15 ∧ (Fr [(0, 76)] o19 o_15) := hp14
    have hps_hp14 := hp14
    obtain ⟨hp14_0, hp14_1⟩ := hps_hp14
    obtain ⟨hB_o_15, fc_o_15⟩ := hp14
    have fr_o_15 : Fr [(0, 76)] o o_15 := Fr.tr fr_o19 fc_o_15 rfl
    show T (b_X12_mixMark_84 o_15) _
    unfold b_X12_mixMark_84
    refine T_some ?_
    show BoxM o_15 ∧ (Fr [(0, 76)] o o_15)
    exact ⟨hB_o_15, fr_o_15⟩
