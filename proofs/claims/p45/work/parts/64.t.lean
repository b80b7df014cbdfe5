set_option maxRecDepth 20000 in
set_option maxHeartbeats 4000000 in
theorem tl_X12_digest_193  (i_o : OO) (i_x1 : Int) (hB_i_o : BoxM i_o) (v0 : 0 ≤ i_x1 ∧ i_x1 ≤ i_o.1 0 32) : T (loopW (fun s => l_X12_digest_193 s.1 s.2) (i_o, i_x1)) (fun r => BoxM r ∧ (Fr [(0, 76)] i_o r)) := by
  have fr_i_o : Fr [(0, 76)] i_o i_o := Fr.rf
  refine T_loop (fun s => BoxM s.1 ∧ (Fr [(0, 76)] i_o s.1) ∧ (0 ≤ s.2 ∧ s.2 ≤ s.1.1 0 32)) (fun s => (s.1.1 0 32 - s.2).toNat) (by exact ⟨hB_i_o, fr_i_o, v0⟩) (fun s hs => ?_)
  obtain ⟨o, x1⟩ := s
  replace hs : BoxM o ∧ (Fr [(0, 76)] i_o o) ∧ (0 ≤ x1 ∧ x1 ≤ o.1 0 32) := hs
  obtain ⟨hB_o, fr_o, w0⟩ := hs
  have g0_32_i := bM_0_32 hB_i_o
  have g0_32_o : o.1 0 32 = i_o.1 0 32 := fr_o.1 0 32 rfl
  have g0_10_i := bM_0_10 hB_i_o
  have g0_10_o : o.1 0 10 = i_o.1 0 10 := fr_o.1 0 10 rfl
  have g0_27_i := bM_0_27 hB_i_o
  have g0_27_o : o.1 0 27 = i_o.1 0 27 := fr_o.1 0 27 rfl
  have g0_4_i := bM_0_4 hB_i_o
  have g0_4_o : o.1 0 4 = i_o.1 0 4 := fr_o.1 0 4 rfl
  have g0_17_i := bM_0_17 hB_i_o
  have g0_17_o : o.1 0 17 = i_o.1 0 17 := fr_o.1 0 17 rfl
  show T (l_X12_digest_193 o x1) _
  unfold l_X12_digest_193
  refine T_qLt ⟨by omega, by omega⟩ ⟨by omega, by omega⟩ (fun h1 => ?_) (fun h1 => ?_)
  ·
    refine T_qB (t_X12_mixMark o x1 hB_o (by omega)) (fun o31 hc_o31 hp2 => ?_)
    replace hp2 : BoxM o31 ∧ (Fr [(0, 76)] o o31) := hp2
    obtain ⟨hB_o31, fc_o31⟩ := hp2
    have fr_o31 : Fr [(0, 76)] i_o o31 := Fr.tr fr_o fc_o31 rfl
    have g0_32_o31 : o31.1 0 32 = o.1 0 32 := fc_o31.1 0 32 rfl
    have g0_10_o31 : o31.1 0 10 = o.1 0 10 := fc_o31.1 0 10 rfl
    have g0_27_o31 : o31.1 0 27 = o.1 0 27 := fc_o31.1 0 27 rfl
    have g0_4_o31 : o31.1 0 4 = o.1 0 4 := fc_o31.1 0 4 rfl
    have g0_17_o31 : o31.1 0 17 = o.1 0 17 := fc_o31.1 0 17 rfl
    refine T_some ?_
    show (BoxM o31 ∧ (Fr [(0, 76)] i_o o31) ∧ (0 ≤ (x1 + 1) ∧ (x1 + 1) ≤ o31.1 0 32)) ∧ (o31.1 0 32 - (x1 + 1)).toNat < (o.1 0 32 - x1).toNat
    exact ⟨⟨hB_o31, fr_o31, (by omega)⟩, by omega⟩
  ·
    refine T_some ?_
    show BoxM o ∧ (Fr [(0, 76)] i_o o)
    exact ⟨hB_o, fr_o⟩
set_option maxRecDepth 20000 in
set_option maxHeartbeats 4000000 in
theorem tl_X12_digest_9  (i_o : OO) (i_x1 : Int) (hB_i_o : BoxM i_o) (v0 : 0 ≤ i_x1 ∧ i_x1 ≤ 10) : T (loopW (fun s => l_X12_digest_9 s.1 s.2) (i_o, i_x1)) (fun r => BoxM r ∧ (Fr [(0, 76)] i_o r)) := by
  have fr_i_o : Fr [(0, 76)] i_o i_o := Fr.rf
  refine T_loop (fun s => BoxM s.1 ∧ (Fr [(0, 76)] i_o s.1) ∧ (0 ≤ s.2 ∧ s.2 ≤ 10)) (fun s => (10 - s.2).toNat) (by exact ⟨hB_i_o, fr_i_o, v0⟩) (fun s hs => ?_)
  obtain ⟨o, x1⟩ := s
  replace hs : BoxM o ∧ (Fr [(0, 76)] i_o o) ∧ (0 ≤ x1 ∧ x1 ≤ 10) := hs
  obtain ⟨hB_o, fr_o, w0⟩ := hs
  have g0_32_i := bM_0_32 hB_i_o
  have g0_32_o : o.1 0 32 = i_o.1 0 32 := fr_o.1 0 32 rfl
  have g0_10_i := bM_0_10 hB_i_o
  have g0_10_o : o.1 0 10 = i_o.1 0 10 := fr_o.1 0 10 rfl
  have g0_27_i := bM_0_27 hB_i_o
  have g0_27_o : o.1 0 27 = i_o.1 0 27 := fr_o.1 0 27 rfl
  have g0_4_i := bM_0_4 hB_i_o
  have g0_4_o : o.1 0 4 = i_o.1 0 4 := fr_o.1 0 4 rfl
  have g0_17_i := bM_0_17 hB_i_o
  have g0_17_o : o.1 0 17 = i_o.1 0 17 := fr_o.1 0 17 rfl
  show T (l_X12_digest_9 o x1) _
  unfold l_X12_digest_9
  refine T_qLt ⟨by decide, by decide⟩ ⟨by omega, by omega⟩ (fun h3 => ?_) (fun h3 => ?_)
  ·
    refine T_some ?_
    show BoxM o ∧ (Fr [(0, 76)] i_o o)
    exact ⟨hB_o, fr_o⟩
  ·
    refine T_qB (t_X12_counts o x1 hB_o (by omega)) (fun r67 hc_r67 hp4 => ?_)
    replace hp4 : (inR r67) := hp4
    refine T_qB (t_X12_mix o r67 hB_o) (fun o71 hc_o71 hp5 => ?_)
    replace hp5 : BoxM o71 ∧ (Fr [(0, 76)] o o71) := hp5
    obtain ⟨hB_o71, fc_o71⟩ := hp5
    have fr_o71 : Fr [(0, 76)] i_o o71 := Fr.tr fr_o fc_o71 rfl
    have g0_32_o71 : o71.1 0 32 = o.1 0 32 := fc_o71.1 0 32 rfl
    have g0_10_o71 : o71.1 0 10 = o.1 0 10 := fc_o71.1 0 10 rfl
    have g0_27_o71 : o71.1 0 27 = o.1 0 27 := fc_o71.1 0 27 rfl
    have g0_4_o71 : o71.1 0 4 = o.1 0 4 := fc_o71.1 0 4 rfl
    have g0_17_o71 : o71.1 0 17 = o.1 0 17 := fc_o71.1 0 17 rfl
    refine T_some ?_
    show (BoxM o71 ∧ (Fr [(0, 76)] i_o o71) ∧ (0 ≤ (x1 + 1) ∧ (x1 + 1) ≤ 10)) ∧ (10 - (x1 + 1)).toNat < (10 - x1).toNat
    exact ⟨⟨hB_o71, fr_o71, (by omega)⟩, by omega⟩
set_option maxRecDepth 20000 in
set_option maxHeartbeats 4000000 in
theorem tl_X12_digest_76 (x1 : Int) (i_o : OO) (i_x2 : Int) (hB_i_o : BoxM i_o) (k0 : 0 ≤ x1 ∧ x1 ≤ i_o.1 0 17) (k1 : x1 < i_o.1 0 17) (v0 : 0 ≤ i_x2 ∧ i_x2 ≤ 6) : T (loopW (fun s => l_X12_digest_76 x1 s.1 s.2) (i_o, i_x2)) (fun r => BoxM r ∧ (Fr [(0, 76)] i_o r)) := by
  have fr_i_o : Fr [(0, 76)] i_o i_o := Fr.rf
  refine T_loop (fun s => BoxM s.1 ∧ (Fr [(0, 76)] i_o s.1) ∧ (0 ≤ s.2 ∧ s.2 ≤ 6)) (fun s => (6 - s.2).toNat) (by exact ⟨hB_i_o, fr_i_o, v0⟩) (fun s hs => ?_)
  obtain ⟨o, x2⟩ := s
  replace hs : BoxM o ∧ (Fr [(0, 76)] i_o o) ∧ (0 ≤ x2 ∧ x2 ≤ 6) := hs
  obtain ⟨hB_o, fr_o, w0⟩ := hs
  have g0_32_i := bM_0_32 hB_i_o
  have g0_32_o : o.1 0 32 = i_o.1 0 32 := fr_o.1 0 32 rfl
  have g0_10_i := bM_0_10 hB_i_o
  have g0_10_o : o.1 0 10 = i_o.1 0 10 := fr_o.1 0 10 rfl
  have g0_27_i := bM_0_27 hB_i_o
  have g0_27_o : o.1 0 27 = i_o.1 0 27 := fr_o.1 0 27 rfl
  have g0_4_i := bM_0_4 hB_i_o
  have g0_4_o : o.1 0 4 = i_o.1 0 4 := fr_o.1 0 4 rfl
  have g0_17_i := bM_0_17 hB_i_o
  have g0_17_o : o.1 0 17 = i_o.1 0 17 := fr_o.1 0 17 rfl
  show T (l_X12_digest_76 x1 o x2) _
  unfold l_X12_digest_76
  refine T_qLt ⟨by decide, by decide⟩ ⟨by omega, by omega⟩ (fun h6 => ?_) (fun h6 => ?_)
  ·
    refine T_some ?_
    show BoxM o ∧ (Fr [(0, 76)] i_o o)
    exact ⟨hB_o, fr_o⟩
  ·
    refine T_qB (t_X12_houseTells o x1 x2 hB_o (by omega) (by omega)) (fun r52 hc_r52 hp7 => ?_)
    replace hp7 : (inR r52) := hp7
    refine T_qB (t_X12_mix o r52 hB_o) (fun o56 hc_o56 hp8 => ?_)
    replace hp8 : BoxM o56 ∧ (Fr [(0, 76)] o o56) := hp8
    obtain ⟨hB_o56, fc_o56⟩ := hp8
    have fr_o56 : Fr [(0, 76)] i_o o56 := Fr.tr fr_o fc_o56 rfl
    have g0_32_o56 : o56.1 0 32 = o.1 0 32 := fc_o56.1 0 32 rfl
    have g0_10_o56 : o56.1 0 10 = o.1 0 10 := fc_o56.1 0 10 rfl
    have g0_27_o56 : o56.1 0 27 = o.1 0 27 := fc_o56.1 0 27 rfl
    have g0_4_o56 : o56.1 0 4 = o.1 0 4 := fc_o56.1 0 4 rfl
    have g0_17_o56 : o56.1 0 17 = o.1 0 17 := fc_o56.1 0 17 rfl
    refine T_some ?_
    show (BoxM o56 ∧ (Fr [(0, 76)] i_o o56) ∧ (0 ≤ (x2 + 1) ∧ (x2 + 1) ≤ 6)) ∧ (6 - (x2 + 1)).toNat < (6 - x2).toNat
    exact ⟨⟨hB_o56, fr_o56, (by omega)⟩, by omega⟩
set_option maxRecDepth 20000 in
set_option maxHeartbeats 4000000 in
theorem tl_X12_digest_128 (x1 : Int) (i_o : OO) (i_x2 : Int) (hB_i_o : BoxM i_o) (k0 : 0 ≤ x1 ∧ x1 ≤ i_o.1 0 27) (k1 : x1 < i_o.1 0 27) (v0 : 0 ≤ i_x2 ∧ i_x2 ≤ 4) : T (loopW (fun s => l_X12_digest_128 x1 s.1 s.2) (i_o, i_x2)) (fun r => BoxM r ∧ (Fr [(0, 76)] i_o r)) := by
  have fr_i_o : Fr [(0, 76)] i_o i_o := Fr.rf
  refine T_loop (fun s => BoxM s.1 ∧ (Fr [(0, 76)] i_o s.1) ∧ (0 ≤ s.2 ∧ s.2 ≤ 4)) (fun s => (4 - s.2).toNat) (by exact ⟨hB_i_o, fr_i_o, v0⟩) (fun s hs => ?_)
  obtain ⟨o, x2⟩ := s
  replace hs : BoxM o ∧ (Fr [(0, 76)] i_o o) ∧ (0 ≤ x2 ∧ x2 ≤ 4) := hs
  obtain ⟨hB_o, fr_o, w0⟩ := hs
  have g0_32_i := bM_0_32 hB_i_o
  have g0_32_o : o.1 0 32 = i_o.1 0 32 := fr_o.1 0 32 rfl
  have g0_10_i := bM_0_10 hB_i_o
  have g0_10_o : o.1 0 10 = i_o.1 0 10 := fr_o.1 0 10 rfl
  have g0_27_i := bM_0_27 hB_i_o
  have g0_27_o : o.1 0 27 = i_o.1 0 27 := fr_o.1 0 27 rfl
  have g0_4_i := bM_0_4 hB_i_o
  have g0_4_o : o.1 0 4 = i_o.1 0 4 := fr_o.1 0 4 rfl
  have g0_17_i := bM_0_17 hB_i_o
  have g0_17_o : o.1 0 17 = i_o.1 0 17 := fr_o.1 0 17 rfl
  show T (l_X12_digest_128 x1 o x2) _
  unfold l_X12_digest_128
  refine T_qLt ⟨by decide, by decide⟩ ⟨by omega, by omega⟩ (fun h9 => ?_) (fun h9 => ?_)
  ·
    refine T_some ?_
    show BoxM o ∧ (Fr [(0, 76)] i_o o)
    exact ⟨hB_o, fr_o⟩
  ·
    refine T_qB (t_X12_personTells o x1 x2 hB_o (by omega) (by omega)) (fun r42 hc_r42 hp10 => ?_)
    replace hp10 : (inR r42) := hp10
    refine T_qB (t_X12_mix o r42 hB_o) (fun o46 hc_o46 hp11 => ?_)
    replace hp11 : BoxM o46 ∧ (Fr [(0, 76)] o o46) := hp11
    obtain ⟨hB_o46, fc_o46⟩ := hp11
    have fr_o46 : Fr [(0, 76)] i_o o46 := Fr.tr fr_o fc_o46 rfl
    have g0_32_o46 : o46.1 0 32 = o.1 0 32 := fc_o46.1 0 32 rfl
    have g0_10_o46 : o46.1 0 10 = o.1 0 10 := fc_o46.1 0 10 rfl
    have g0_27_o46 : o46.1 0 27 = o.1 0 27 := fc_o46.1 0 27 rfl
    have g0_4_o46 : o46.1 0 4 = o.1 0 4 := fc_o46.1 0 4 rfl
    have g0_17_o46 : o46.1 0 17 = o.1 0 17 := fc_o46.1 0 17 rfl
    refine T_some ?_
    show (BoxM o46 ∧ (Fr [(0, 76)] i_o o46) ∧ (0 ≤ (x2 + 1) ∧ (x2 + 1) ≤ 4)) ∧ (4 - (x2 + 1)).toNat < (4 - x2).toNat
    exact ⟨⟨hB_o46, fr_o46, (by omega)⟩, by omega⟩
set_option maxRecDepth 20000 in
set_option maxHeartbeats 4000000 in
theorem tl_X12_digest_32  (i_o : OO) (i_x1 : Int) (hB_i_o : BoxM i_o) (v0 : 0 ≤ i_x1 ∧ i_x1 ≤ 64) : T (loopW (fun s => l_X12_digest_32 s.1 s.2) (i_o, i_x1)) (fun r => BoxM r ∧ (Fr [(0, 76)] i_o r)) := by
  have fr_i_o : Fr [(0, 76)] i_o i_o := Fr.rf
  refine T_loop (fun s => BoxM s.1 ∧ (Fr [(0, 76)] i_o s.1) ∧ (0 ≤ s.2 ∧ s.2 ≤ 64)) (fun s => (64 - s.2).toNat) (by exact ⟨hB_i_o, fr_i_o, v0⟩) (fun s hs => ?_)
  obtain ⟨o, x1⟩ := s
  replace hs : BoxM o ∧ (Fr [(0, 76)] i_o o) ∧ (0 ≤ x1 ∧ x1 ≤ 64) := hs
  obtain ⟨hB_o, fr_o, w0⟩ := hs
  have g0_32_i := bM_0_32 hB_i_o
  have g0_32_o : o.1 0 32 = i_o.1 0 32 := fr_o.1 0 32 rfl
  have g0_10_i := bM_0_10 hB_i_o
  have g0_10_o : o.1 0 10 = i_o.1 0 10 := fr_o.1 0 10 rfl
  have g0_27_i := bM_0_27 hB_i_o
  have g0_27_o : o.1 0 27 = i_o.1 0 27 := fr_o.1 0 27 rfl
  have g0_4_i := bM_0_4 hB_i_o
  have g0_4_o : o.1 0 4 = i_o.1 0 4 := fr_o.1 0 4 rfl
  have g0_17_i := bM_0_17 hB_i_o
  have g0_17_o : o.1 0 17 = i_o.1 0 17 := fr_o.1 0 17 rfl
  show T (l_X12_digest_32 o x1) _
  unfold l_X12_digest_32
  refine T_qLt ⟨by omega, by omega⟩ ⟨by decide, by decide⟩ (fun h12 => ?_) (fun h12 => ?_)
  ·
    refine T_qIn ⟨by omega, by omega⟩ ?_
    refine T_qNm (fun n58 e_n58 => ?_)
    have b_n58 : 0 ≤ n58 ∧ n58 ≤ 4 := by rw [e_n58]; exact bM_11 hB_o _
    refine T_qB (t_X12_mix o n58 hB_o) (fun o61 hc_o61 hp13 => ?_)
    replace hp13 : BoxM o61 ∧ (Fr [(0, 76)] o o61) := hp13
    obtain ⟨hB_o61, fc_o61⟩ := hp13
    have fr_o61 : Fr [(0, 76)] i_o o61 := Fr.tr fr_o fc_o61 rfl
    have g0_32_o61 : o61.1 0 32 = o.1 0 32 := fc_o61.1 0 32 rfl
    have g0_10_o61 : o61.1 0 10 = o.1 0 10 := fc_o61.1 0 10 rfl
    have g0_27_o61 : o61.1 0 27 = o.1 0 27 := fc_o61.1 0 27 rfl
    have g0_4_o61 : o61.1 0 4 = o.1 0 4 := fc_o61.1 0 4 rfl
    have g0_17_o61 : o61.1 0 17 = o.1 0 17 := fc_o61.1 0 17 rfl
    refine T_qIn ⟨by omega, by omega⟩ ?_
    refine T_qNm (fun n63 e_n63 => ?_)
    have b_n63 : 0 ≤ n63 ∧ n63 ≤ 99 := by rw [e_n63]; exact bM_12 hB_o61 _
    refine T_qB (t_X12_mix o61 n63 hB_o61) (fun o66 hc_o66 hp14 => ?_)
    replace hp14 : BoxM o66 ∧ (Fr [(0, 76)] o61 o66) := hp14
    obtain ⟨hB_o66, fc_o66⟩ := hp14
    have fr_o66 : Fr [(0, 76)] i_o o66 := Fr.tr fr_o61 fc_o66 rfl
    have g0_32_o66 : o66.1 0 32 = o61.1 0 32 := fc_o66.1 0 32 rfl
    have g0_10_o66 : o66.1 0 10 = o61.1 0 10 := fc_o66.1 0 10 rfl
    have g0_27_o66 : o66.1 0 27 = o61.1 0 27 := fc_o66.1 0 27 rfl
    have g0_4_o66 : o66.1 0 4 = o61.1 0 4 := fc_o66.1 0 4 rfl
    have g0_17_o66 : o66.1 0 17 = o61.1 0 17 := fc_o66.1 0 17 rfl
    refine T_some ?_
    show (BoxM o66 ∧ (Fr [(0, 76)] i_o o66) ∧ (0 ≤ (x1 + 1) ∧ (x1 + 1) ≤ 64)) ∧ (64 - (x1 + 1)).toNat < (64 - x1).toNat
    exact ⟨⟨hB_o66, fr_o66, (by omega)⟩, by omega⟩
  ·
    refine T_some ?_
    show BoxM o ∧ (Fr [(0, 76)] i_o o)
    exact ⟨hB_o, fr_o⟩
set_option maxRecDepth 20000 in
set_option maxHeartbeats 4000000 in
theorem tl_X12_digest_157  (i_o : OO) (i_x1 : Int) (hB_i_o : BoxM i_o) (v0 : 0 ≤ i_x1 ∧ i_x1 ≤ i_o.1 0 10) : T (loopW (fun s => l_X12_digest_157 s.1 s.2) (i_o, i_x1)) (fun r => BoxM r ∧ (Fr [(0, 76)] i_o r)) := by
  have fr_i_o : Fr [(0, 76)] i_o i_o := Fr.rf
  refine T_loop (fun s => BoxM s.1 ∧ (Fr [(0, 76)] i_o s.1) ∧ (0 ≤ s.2 ∧ s.2 ≤ s.1.1 0 10)) (fun s => (s.1.1 0 10 - s.2).toNat) (by exact ⟨hB_i_o, fr_i_o, v0⟩) (fun s hs => ?_)
  obtain ⟨o, x1⟩ := s
  replace hs : BoxM o ∧ (Fr [(0, 76)] i_o o) ∧ (0 ≤ x1 ∧ x1 ≤ o.1 0 10) := hs
  obtain ⟨hB_o, fr_o, w0⟩ := hs
  have g0_32_i := bM_0_32 hB_i_o
  have g0_32_o : o.1 0 32 = i_o.1 0 32 := fr_o.1 0 32 rfl
  have g0_10_i := bM_0_10 hB_i_o
  have g0_10_o : o.1 0 10 = i_o.1 0 10 := fr_o.1 0 10 rfl
  have g0_27_i := bM_0_27 hB_i_o
  have g0_27_o : o.1 0 27 = i_o.1 0 27 := fr_o.1 0 27 rfl
  have g0_4_i := bM_0_4 hB_i_o
  have g0_4_o : o.1 0 4 = i_o.1 0 4 := fr_o.1 0 4 rfl
  have g0_17_i := bM_0_17 hB_i_o
  have g0_17_o : o.1 0 17 = i_o.1 0 17 := fr_o.1 0 17 rfl
  show T (l_X12_digest_157 o x1) _
  unfold l_X12_digest_157
  refine T_qLt ⟨by omega, by omega⟩ ⟨by omega, by omega⟩ (fun h15 => ?_) (fun h15 => ?_)
  ·
    refine T_qIn ⟨by omega, by omega⟩ ?_
    refine T_qNm (fun n33 e_n33 => ?_)
    have b_n33 : 0 ≤ n33 ∧ n33 ≤ 999 := by rw [e_n33]; exact bM_7 hB_o _
    refine T_qB (t_X12_mix o n33 hB_o) (fun o36 hc_o36 hp16 => ?_)
    replace hp16 : BoxM o36 ∧ (Fr [(0, 76)] o o36) := hp16
    obtain ⟨hB_o36, fc_o36⟩ := hp16
    have fr_o36 : Fr [(0, 76)] i_o o36 := Fr.tr fr_o fc_o36 rfl
    have g0_32_o36 : o36.1 0 32 = o.1 0 32 := fc_o36.1 0 32 rfl
    have g0_10_o36 : o36.1 0 10 = o.1 0 10 := fc_o36.1 0 10 rfl
    have g0_27_o36 : o36.1 0 27 = o.1 0 27 := fc_o36.1 0 27 rfl
    have g0_4_o36 : o36.1 0 4 = o.1 0 4 := fc_o36.1 0 4 rfl
    have g0_17_o36 : o36.1 0 17 = o.1 0 17 := fc_o36.1 0 17 rfl
    refine T_qIn ⟨by omega, by omega⟩ ?_
    refine T_qNm (fun n38 e_n38 => ?_)
    have b_n38 : 0 ≤ n38 ∧ n38 ≤ 999 := by rw [e_n38]; exact bM_8 hB_o36 _
    refine T_qB (t_X12_mix o36 n38 hB_o36) (fun o41 hc_o41 hp17 => ?_)
    replace hp17 : BoxM o41 ∧ (Fr [(0, 76)] o36 o41) := hp17
    obtain ⟨hB_o41, fc_o41⟩ := hp17
    have fr_o41 : Fr [(0, 76)] i_o o41 := Fr.tr fr_o36 fc_o41 rfl
    have g0_32_o41 : o41.1 0 32 = o36.1 0 32 := fc_o41.1 0 32 rfl
    have g0_10_o41 : o41.1 0 10 = o36.1 0 10 := fc_o41.1 0 10 rfl
    have g0_27_o41 : o41.1 0 27 = o36.1 0 27 := fc_o41.1 0 27 rfl
    have g0_4_o41 : o41.1 0 4 = o36.1 0 4 := fc_o41.1 0 4 rfl
    have g0_17_o41 : o41.1 0 17 = o36.1 0 17 := fc_o41.1 0 17 rfl
    refine T_some ?_
    show (BoxM o41 ∧ (Fr [(0, 76)] i_o o41) ∧ (0 ≤ (x1 + 1) ∧ (x1 + 1) ≤ o41.1 0 10)) ∧ (o41.1 0 10 - (x1 + 1)).toNat < (o.1 0 10 - x1).toNat
    exact ⟨⟨hB_o41, fr_o41, (by omega)⟩, by omega⟩
  ·
    refine T_some ?_
    show BoxM o ∧ (Fr [(0, 76)] i_o o)
    exact ⟨hB_o, fr_o⟩
set_option maxRecDepth 20000 in
set_option maxHeartbeats 4000000 in
theorem tl_X12_digest_245 (x1 : Int) (i_o : OO) (i_x2 : Int) (hB_i_o : BoxM i_o) (k0 : 0 ≤ x1 ∧ x1 ≤ 6) (k1 : x1 < 6) (v0 : 0 ≤ i_x2 ∧ i_x2 ≤ 40) : T (loopW (fun s => l_X12_digest_245 x1 s.1 s.2) (i_o, i_x2)) (fun r => BoxM r ∧ (Fr [(0, 76)] i_o r)) := by
  have fr_i_o : Fr [(0, 76)] i_o i_o := Fr.rf
  refine T_loop (fun s => BoxM s.1 ∧ (Fr [(0, 76)] i_o s.1) ∧ (0 ≤ s.2 ∧ s.2 ≤ 40)) (fun s => (40 - s.2).toNat) (by exact ⟨hB_i_o, fr_i_o, v0⟩) (fun s hs => ?_)
  obtain ⟨o, x2⟩ := s
  replace hs : BoxM o ∧ (Fr [(0, 76)] i_o o) ∧ (0 ≤ x2 ∧ x2 ≤ 40) := hs
  obtain ⟨hB_o, fr_o, w0⟩ := hs
  have g0_32_i := bM_0_32 hB_i_o
  have g0_32_o : o.1 0 32 = i_o.1 0 32 := fr_o.1 0 32 rfl
  have g0_10_i := bM_0_10 hB_i_o
  have g0_10_o : o.1 0 10 = i_o.1 0 10 := fr_o.1 0 10 rfl
  have g0_27_i := bM_0_27 hB_i_o
  have g0_27_o : o.1 0 27 = i_o.1 0 27 := fr_o.1 0 27 rfl
  have g0_4_i := bM_0_4 hB_i_o
  have g0_4_o : o.1 0 4 = i_o.1 0 4 := fr_o.1 0 4 rfl
  have g0_17_i := bM_0_17 hB_i_o
  have g0_17_o : o.1 0 17 = i_o.1 0 17 := fr_o.1 0 17 rfl
  show T (l_X12_digest_245 x1 o x2) _
  unfold l_X12_digest_245
  refine T_qIn ⟨by omega, by omega⟩ ?_
  refine T_qNm (fun n16 e_n16 => ?_)
  have b_n16 : -9 ≤ n16 ∧ n16 ≤ 40 := by rw [e_n16]; exact bM_2 hB_o _
  refine T_qLt ⟨by omega, by omega⟩ ⟨by omega, by omega⟩ (fun h18 => ?_) (fun h18 => ?_)
  ·
    refine T_qIn ⟨by omega, by omega⟩ ?_
    refine T_qNm (fun n18 e_n18 => ?_)
    have b_n18 : -2147483648 ≤ n18 ∧ n18 ≤ 2147483647 := by rw [e_n18]; exact bM_3 hB_o _
    refine T_qB (t_X12_mix o n18 hB_o) (fun o21 hc_o21 hp19 => ?_)
    replace hp19 : BoxM o21 ∧ (Fr [(0, 76)] o o21) := hp19
    obtain ⟨hB_o21, fc_o21⟩ := hp19
    have fr_o21 : Fr [(0, 76)] i_o o21 := Fr.tr fr_o fc_o21 rfl
    have g0_32_o21 : o21.1 0 32 = o.1 0 32 := fc_o21.1 0 32 rfl
    have g0_10_o21 : o21.1 0 10 = o.1 0 10 := fc_o21.1 0 10 rfl
    have g0_27_o21 : o21.1 0 27 = o.1 0 27 := fc_o21.1 0 27 rfl
    have g0_4_o21 : o21.1 0 4 = o.1 0 4 := fc_o21.1 0 4 rfl
    have g0_17_o21 : o21.1 0 17 = o.1 0 17 := fc_o21.1 0 17 rfl
    refine T_some ?_
    show (BoxM o21 ∧ (Fr [(0, 76)] i_o o21) ∧ (0 ≤ (x2 + 1) ∧ (x2 + 1) ≤ 40)) ∧ (40 - (x2 + 1)).toNat < (40 - x2).toNat
    exact ⟨⟨hB_o21, fr_o21, (by omega)⟩, by omega⟩
  ·
    refine T_some ?_
    show BoxM o ∧ (Fr [(0, 76)] i_o o)
    exact ⟨hB_o, fr_o⟩
set_option maxRecDepth 20000 in
set_option maxHeartbeats 4000000 in
theorem tl_X12_digest_314 (x1 : Int) (i_o : OO) (i_x2 : Int) (hB_i_o : BoxM i_o) (k0 : 0 ≤ x1 ∧ x1 ≤ 4) (k1 : x1 < 4) (v0 : 0 ≤ i_x2 ∧ i_x2 ≤ 40) : T (loopW (fun s => l_X12_digest_314 x1 s.1 s.2) (i_o, i_x2)) (fun r => BoxM r ∧ (Fr [(0, 76)] i_o r)) := by
  have fr_i_o : Fr [(0, 76)] i_o i_o := Fr.rf
  refine T_loop (fun s => BoxM s.1 ∧ (Fr [(0, 76)] i_o s.1) ∧ (0 ≤ s.2 ∧ s.2 ≤ 40)) (fun s => (40 - s.2).toNat) (by exact ⟨hB_i_o, fr_i_o, v0⟩) (fun s hs => ?_)
  obtain ⟨o, x2⟩ := s
  replace hs : BoxM o ∧ (Fr [(0, 76)] i_o o) ∧ (0 ≤ x2 ∧ x2 ≤ 40) := hs
  obtain ⟨hB_o, fr_o, w0⟩ := hs
  have g0_32_i := bM_0_32 hB_i_o
  have g0_32_o : o.1 0 32 = i_o.1 0 32 := fr_o.1 0 32 rfl
  have g0_10_i := bM_0_10 hB_i_o
  have g0_10_o : o.1 0 10 = i_o.1 0 10 := fr_o.1 0 10 rfl
  have g0_27_i := bM_0_27 hB_i_o
  have g0_27_o : o.1 0 27 = i_o.1 0 27 := fr_o.1 0 27 rfl
  have g0_4_i := bM_0_4 hB_i_o
  have g0_4_o : o.1 0 4 = i_o.1 0 4 := fr_o.1 0 4 rfl
  have g0_17_i := bM_0_17 hB_i_o
  have g0_17_o : o.1 0 17 = i_o.1 0 17 := fr_o.1 0 17 rfl
  show T (l_X12_digest_314 x1 o x2) _
  unfold l_X12_digest_314
  refine T_qIn ⟨by omega, by omega⟩ ?_
  refine T_qNm (fun n2 e_n2 => ?_)
  have b_n2 : -9 ≤ n2 ∧ n2 ≤ 40 := by rw [e_n2]; exact bM_5 hB_o _
  refine T_qLt ⟨by omega, by omega⟩ ⟨by omega, by omega⟩ (fun h20 => ?_) (fun h20 => ?_)
  ·
    refine T_qIn ⟨by omega, by omega⟩ ?_
    refine T_qNm (fun n4 e_n4 => ?_)
    have b_n4 : -128 ≤ n4 ∧ n4 ≤ 127 := by rw [e_n4]; exact bM_6 hB_o _
    refine T_qB (t_X12_mix o n4 hB_o) (fun o7 hc_o7 hp21 => ?_)
    replace hp21 : BoxM o7 ∧ (Fr [(0, 76)] o o7) := hp21
    obtain ⟨hB_o7, fc_o7⟩ := hp21
    have fr_o7 : Fr [(0, 76)] i_o o7 := Fr.tr fr_o fc_o7 rfl
    have g0_32_o7 : o7.1 0 32 = o.1 0 32 := fc_o7.1 0 32 rfl
    have g0_10_o7 : o7.1 0 10 = o.1 0 10 := fc_o7.1 0 10 rfl
    have g0_27_o7 : o7.1 0 27 = o.1 0 27 := fc_o7.1 0 27 rfl
    have g0_4_o7 : o7.1 0 4 = o.1 0 4 := fc_o7.1 0 4 rfl
    have g0_17_o7 : o7.1 0 17 = o.1 0 17 := fc_o7.1 0 17 rfl
    refine T_some ?_
    show (BoxM o7 ∧ (Fr [(0, 76)] i_o o7) ∧ (0 ≤ (x2 + 1) ∧ (x2 + 1) ≤ 40)) ∧ (40 - (x2 + 1)).toNat < (40 - x2).toNat
    exact ⟨⟨hB_o7, fr_o7, (by omega)⟩, by omega⟩
  ·
    refine T_some ?_
    show BoxM o ∧ (Fr [(0, 76)] i_o o)
    exact ⟨hB_o, fr_o⟩
set_option maxRecDepth 20000 in
set_option maxHeartbeats 4000000 in
theorem tl_X12_digest_118  (i_o : OO) (i_x1 : Int) (hB_i_o : BoxM i_o) (v0 : 0 ≤ i_x1 ∧ i_x1 ≤ i_o.1 0 27) : T (loopW (fun s => l_X12_digest_118 s.1 s.2) (i_o, i_x1)) (fun r => BoxM r ∧ (Fr [(0, 76)] i_o r)) := by
  have fr_i_o : Fr [(0, 76)] i_o i_o := Fr.rf
  refine T_loop (fun s => BoxM s.1 ∧ (Fr [(0, 76)] i_o s.1) ∧ (0 ≤ s.2 ∧ s.2 ≤ s.1.1 0 27)) (fun s => (s.1.1 0 27 - s.2).toNat) (by exact ⟨hB_i_o, fr_i_o, v0⟩) (fun s hs => ?_)
  obtain ⟨o, x1⟩ := s
  replace hs : BoxM o ∧ (Fr [(0, 76)] i_o o) ∧ (0 ≤ x1 ∧ x1 ≤ o.1 0 27) := hs
  obtain ⟨hB_o, fr_o, w0⟩ := hs
  have g0_32_i := bM_0_32 hB_i_o
  have g0_32_o : o.1 0 32 = i_o.1 0 32 := fr_o.1 0 32 rfl
  have g0_10_i := bM_0_10 hB_i_o
  have g0_10_o : o.1 0 10 = i_o.1 0 10 := fr_o.1 0 10 rfl
  have g0_27_i := bM_0_27 hB_i_o
  have g0_27_o : o.1 0 27 = i_o.1 0 27 := fr_o.1 0 27 rfl
  have g0_4_i := bM_0_4 hB_i_o
  have g0_4_o : o.1 0 4 = i_o.1 0 4 := fr_o.1 0 4 rfl
  have g0_17_i := bM_0_17 hB_i_o
  have g0_17_o : o.1 0 17 = i_o.1 0 17 := fr_o.1 0 17 rfl
  show T (l_X12_digest_118 o x1) _
  unfold l_X12_digest_118
  refine T_qLt ⟨by omega, by omega⟩ ⟨by omega, by omega⟩ (fun h22 => ?_) (fun h22 => ?_)
  ·
    unfold e_X12_digest_128
    refine T_qB (tl_X12_digest_128 x1 o 0 hB_o (by omega) (by omega) (by omega)) (fun r23 hc_r23 hp24 => ?_)
    obtain ⟨o_25, q_o_25⟩ : ∃ q, q = r23 := ⟨_, rfl⟩
    subst q_o_25
    replace hp24 : BoxM o_25 ∧ (Fr [(0, 76)] o o_25) := hp24
    have hps_hp24 := hp24
    obtain ⟨hp24_0, hp24_1⟩ := hps_hp24
    obtain ⟨hB_o_25, fc_o_25⟩ := hp24
    have fr_o_25 : Fr [(0, 76)] i_o o_25 := Fr.tr fr_o fc_o_25 rfl
    have g0_32_o_25 : o_25.1 0 32 = o.1 0 32 := fc_o_25.1 0 32 rfl
    have g0_10_o_25 : o_25.1 0 10 = o.1 0 10 := fc_o_25.1 0 10 rfl
    have g0_27_o_25 : o_25.1 0 27 = o.1 0 27 := fc_o_25.1 0 27 rfl
    have g0_4_o_25 : o_25.1 0 4 = o.1 0 4 := fc_o_25.1 0 4 rfl
    have g0_17_o_25 : o_25.1 0 17 = o.1 0 17 := fc_o_25.1 0 17 rfl
    show T (b_X12_digest_149 o_25 x1) _
    unfold b_X12_digest_149
    refine T_some ?_
    show (BoxM o_25 ∧ (Fr [(0, 76)] i_o o_25) ∧ (0 ≤ (x1 + 1) ∧ (x1 + 1) ≤ o_25.1 0 27)) ∧ (o_25.1 0 27 - (x1 + 1)).toNat < (o.1 0 27 - x1).toNat
    exact ⟨⟨hB_o_25, fr_o_25, (by omega)⟩, by omega⟩
  ·
    refine T_some ?_
    show BoxM o ∧ (Fr [(0, 76)] i_o o)
    exact ⟨hB_o, fr_o⟩
set_option maxRecDepth 20000 in
set_option maxHeartbeats 4000000 in
theorem tl_X12_digest_66  (i_o : OO) (i_x1 : Int) (hB_i_o : BoxM i_o) (v0 : 0 ≤ i_x1 ∧ i_x1 ≤ i_o.1 0 17) : T (loopW (fun s => l_X12_digest_66 s.1 s.2) (i_o, i_x1)) (fun r => BoxM r ∧ (Fr [(0, 76)] i_o r)) := by
  have fr_i_o : Fr [(0, 76)] i_o i_o := Fr.rf
  refine T_loop (fun s => BoxM s.1 ∧ (Fr [(0, 76)] i_o s.1) ∧ (0 ≤ s.2 ∧ s.2 ≤ s.1.1 0 17)) (fun s => (s.1.1 0 17 - s.2).toNat) (by exact ⟨hB_i_o, fr_i_o, v0⟩) (fun s hs => ?_)
  obtain ⟨o, x1⟩ := s
  replace hs : BoxM o ∧ (Fr [(0, 76)] i_o o) ∧ (0 ≤ x1 ∧ x1 ≤ o.1 0 17) := hs
  obtain ⟨hB_o, fr_o, w0⟩ := hs
  have g0_32_i := bM_0_32 hB_i_o
  have g0_32_o : o.1 0 32 = i_o.1 0 32 := fr_o.1 0 32 rfl
  have g0_10_i := bM_0_10 hB_i_o
  have g0_10_o : o.1 0 10 = i_o.1 0 10 := fr_o.1 0 10 rfl
  have g0_27_i := bM_0_27 hB_i_o
  have g0_27_o : o.1 0 27 = i_o.1 0 27 := fr_o.1 0 27 rfl
  have g0_4_i := bM_0_4 hB_i_o
  have g0_4_o : o.1 0 4 = i_o.1 0 4 := fr_o.1 0 4 rfl
  have g0_17_i := bM_0_17 hB_i_o
  have g0_17_o : o.1 0 17 = i_o.1 0 17 := fr_o.1 0 17 rfl
  show T (l_X12_digest_66 o x1) _
  unfold l_X12_digest_66
  refine T_qLt ⟨by omega, by omega⟩ ⟨by omega, by omega⟩ (fun h26 => ?_) (fun h26 => ?_)
  ·
    unfold e_X12_digest_76
    refine T_qB (tl_X12_digest_76 x1 o 0 hB_o (by omega) (by omega) (by omega)) (fun r27 hc_r27 hp28 => ?_)
    obtain ⟨o_29, q_o_29⟩ : ∃ q, q = r27 := ⟨_, rfl⟩
    subst q_o_29
    replace hp28 : BoxM o_29 ∧ (Fr [(0, 76)] o o_29) := hp28
    have hps_hp28 := hp28
    obtain ⟨hp28_0, hp28_1⟩ := hps_hp28
    obtain ⟨hB_o_29, fc_o_29⟩ := hp28
    have fr_o_29 : Fr [(0, 76)] i_o o_29 := Fr.tr fr_o fc_o_29 rfl
    have g0_32_o_29 : o_29.1 0 32 = o.1 0 32 := fc_o_29.1 0 32 rfl
    have g0_10_o_29 : o_29.1 0 10 = o.1 0 10 := fc_o_29.1 0 10 rfl
    have g0_27_o_29 : o_29.1 0 27 = o.1 0 27 := fc_o_29.1 0 27 rfl
    have g0_4_o_29 : o_29.1 0 4 = o.1 0 4 := fc_o_29.1 0 4 rfl
    have g0_17_o_29 : o_29.1 0 17 = o.1 0 17 := fc_o_29.1 0 17 rfl
    show T (b_X12_digest_97 o_29 x1) _
    unfold b_X12_digest_97
    refine T_qB (t_X12_valueOf o_29 x1 (o_29.1 0 4) hB_o_29 (by omega) (by omega)) (fun r47 hc_r47 hp30 => ?_)
    replace hp30 : (-9 ≤ r47 ∧ r47 ≤ 100000) ∧ (r47 = -9 ∨ 0 ≤ r47) := hp30
    have hps_hp30 := hp30
    obtain ⟨hp30_0, hp30_1⟩ := hps_hp30
    replace hp30 := hid hp30
    refine T_qB (t_X12_mix o_29 r47 hB_o_29) (fun o51 hc_o51 hp31 => ?_)
    replace hp31 : BoxM o51 ∧ (Fr [(0, 76)] o_29 o51) := hp31
    obtain ⟨hB_o51, fc_o51⟩ := hp31
    have fr_o51 : Fr [(0, 76)] i_o o51 := Fr.tr fr_o_29 fc_o51 rfl
    have g0_32_o51 : o51.1 0 32 = o_29.1 0 32 := fc_o51.1 0 32 rfl
    have g0_10_o51 : o51.1 0 10 = o_29.1 0 10 := fc_o51.1 0 10 rfl
    have g0_27_o51 : o51.1 0 27 = o_29.1 0 27 := fc_o51.1 0 27 rfl
    have g0_4_o51 : o51.1 0 4 = o_29.1 0 4 := fc_o51.1 0 4 rfl
    have g0_17_o51 : o51.1 0 17 = o_29.1 0 17 := fc_o51.1 0 17 rfl
    refine T_some ?_
    show (BoxM o51 ∧ (Fr [(0, 76)] i_o o51) ∧ (0 ≤ (x1 + 1) ∧ (x1 + 1) ≤ o51.1 0 17)) ∧ (o51.1 0 17 - (x1 + 1)).toNat < (o.1 0 17 - x1).toNat
    exact ⟨⟨hB_o51, fr_o51, (by omega)⟩, by omega⟩
  ·
    refine T_some ?_
    show BoxM o ∧ (Fr [(0, 76)] i_o o)
    exact ⟨hB_o, fr_o⟩
set_option maxRecDepth 20000 in
set_option maxHeartbeats 4000000 in
theorem tl_X12_digest_214  (i_o : OO) (i_x1 : Int) (hB_i_o : BoxM i_o) (v0 : 0 ≤ i_x1 ∧ i_x1 ≤ 6) : T (loopW (fun s => l_X12_digest_214 s.1 s.2) (i_o, i_x1)) (fun r => BoxM r ∧ (Fr [(0, 76)] i_o r)) := by
  have fr_i_o : Fr [(0, 76)] i_o i_o := Fr.rf
  refine T_loop (fun s => BoxM s.1 ∧ (Fr [(0, 76)] i_o s.1) ∧ (0 ≤ s.2 ∧ s.2 ≤ 6)) (fun s => (6 - s.2).toNat) (by exact ⟨hB_i_o, fr_i_o, v0⟩) (fun s hs => ?_)
  obtain ⟨o, x1⟩ := s
  replace hs : BoxM o ∧ (Fr [(0, 76)] i_o o) ∧ (0 ≤ x1 ∧ x1 ≤ 6) := hs
  obtain ⟨hB_o, fr_o, w0⟩ := hs
  have g0_32_i := bM_0_32 hB_i_o
  have g0_32_o : o.1 0 32 = i_o.1 0 32 := fr_o.1 0 32 rfl
  have g0_10_i := bM_0_10 hB_i_o
  have g0_10_o : o.1 0 10 = i_o.1 0 10 := fr_o.1 0 10 rfl
  have g0_27_i := bM_0_27 hB_i_o
  have g0_27_o : o.1 0 27 = i_o.1 0 27 := fr_o.1 0 27 rfl
  have g0_4_i := bM_0_4 hB_i_o
  have g0_4_o : o.1 0 4 = i_o.1 0 4 := fr_o.1 0 4 rfl
  have g0_17_i := bM_0_17 hB_i_o
  have g0_17_o : o.1 0 17 = i_o.1 0 17 := fr_o.1 0 17 rfl
  show T (l_X12_digest_214 o x1) _
  unfold l_X12_digest_214
  refine T_qLt ⟨by omega, by omega⟩ ⟨by decide, by decide⟩ (fun h32 => ?_) (fun h32 => ?_)
  ·
    refine T_qIn ⟨by omega, by omega⟩ ?_
    refine T_qNm (fun n26 e_n26 => ?_)
    have b_n26 : -9 ≤ n26 ∧ n26 ≤ 40 := by rw [e_n26]; exact bM_2 hB_o _
    refine T_qLt ⟨by omega, by omega⟩ ⟨by decide, by decide⟩ (fun h33 => ?_) (fun h33 => ?_)
    ·
      unfold b_X12_digest_240
      refine T_qB (t_X12_mix o (-1) hB_o) (fun o24 hc_o24 hp34 => ?_)
      replace hp34 : BoxM o24 ∧ (Fr [(0, 76)] o o24) := hp34
      obtain ⟨hB_o24, fc_o24⟩ := hp34
      have fr_o24 : Fr [(0, 76)] i_o o24 := Fr.tr fr_o fc_o24 rfl
      have g0_32_o24 : o24.1 0 32 = o.1 0 32 := fc_o24.1 0 32 rfl
      have g0_10_o24 : o24.1 0 10 = o.1 0 10 := fc_o24.1 0 10 rfl
      have g0_27_o24 : o24.1 0 27 = o.1 0 27 := fc_o24.1 0 27 rfl
      have g0_4_o24 : o24.1 0 4 = o.1 0 4 := fc_o24.1 0 4 rfl
      have g0_17_o24 : o24.1 0 17 = o.1 0 17 := fc_o24.1 0 17 rfl
      unfold e_X12_digest_245
      refine T_qB (tl_X12_digest_245 x1 o24 0 hB_o24 (by omega) (by omega) (by omega)) (fun r35 hc_r35 hp36 => ?_)
      obtain ⟨o_37, q_o_37⟩ : ∃ q, q = r35 := ⟨_, rfl⟩
      subst q_o_37
      replace hp36 : BoxM o_37 ∧ (Fr [(0, 76)] o24 o_37) := hp36
      have hps_hp36 := hp36
      obtain ⟨hp36_0, hp36_1⟩ := hps_hp36
      obtain ⟨hB_o_37, fc_o_37⟩ := hp36
      have fr_o_37 : Fr [(0, 76)] i_o o_37 := Fr.tr fr_o24 fc_o_37 rfl
      have g0_32_o_37 : o_37.1 0 32 = o24.1 0 32 := fc_o_37.1 0 32 rfl
      have g0_10_o_37 : o_37.1 0 10 = o24.1 0 10 := fc_o_37.1 0 10 rfl
      have g0_27_o_37 : o_37.1 0 27 = o24.1 0 27 := fc_o_37.1 0 27 rfl
      have g0_4_o_37 : o_37.1 0 4 = o24.1 0 4 := fc_o_37.1 0 4 rfl
      have g0_17_o_37 : o_37.1 0 17 = o24.1 0 17 := fc_o_37.1 0 17 rfl
      show T (b_X12_digest_276 o_37 x1) _
      unfold b_X12_digest_276
      refine T_some ?_
      show (BoxM o_37 ∧ (Fr [(0, 76)] i_o o_37) ∧ (0 ≤ (x1 + 1) ∧ (x1 + 1) ≤ 6)) ∧ (6 - (x1 + 1)).toNat < (6 - x1).toNat
      exact ⟨⟨hB_o_37, fr_o_37, (by omega)⟩, by omega⟩
    ·
      refine T_qIn ⟨by omega, by omega⟩ ?_
      refine T_qNm (fun n28 e_n28 => ?_)
      have b_n28 : -9 ≤ n28 ∧ n28 ≤ 40 := by rw [e_n28]; exact bM_2 hB_o _
      unfold b_X12_digest_240
      refine T_qB (t_X12_mix o n28 hB_o) (fun o24 hc_o24 hp38 => ?_)
      replace hp38 : BoxM o24 ∧ (Fr [(0, 76)] o o24) := hp38
      obtain ⟨hB_o24, fc_o24⟩ := hp38
      have fr_o24 : Fr [(0, 76)] i_o o24 := Fr.tr fr_o fc_o24 rfl
      have g0_32_o24 : o24.1 0 32 = o.1 0 32 := fc_o24.1 0 32 rfl
      have g0_10_o24 : o24.1 0 10 = o.1 0 10 := fc_o24.1 0 10 rfl
      have g0_27_o24 : o24.1 0 27 = o.1 0 27 := fc_o24.1 0 27 rfl
      have g0_4_o24 : o24.1 0 4 = o.1 0 4 := fc_o24.1 0 4 rfl
      have g0_17_o24 : o24.1 0 17 = o.1 0 17 := fc_o24.1 0 17 rfl
      unfold e_X12_digest_245
      refine T_qB (tl_X12_digest_245 x1 o24 0 hB_o24 (by omega) (by omega) (by omega)) (fun r39 hc_r39 hp40 => ?_)
      obtain ⟨o_41, q_o_41⟩ : ∃ q, q = r39 := ⟨_, rfl⟩
      subst q_o_41
      replace hp40 : BoxM o_41 ∧ (Fr [(0, 76)] o24 o_41) := hp40
      have hps_hp40 := hp40
      obtain ⟨hp40_0, hp40_1⟩ := hps_hp40
      obtain ⟨hB_o_41, fc_o_41⟩ := hp40
      have fr_o_41 : Fr [(0, 76)] i_o o_41 := Fr.tr fr_o24 fc_o_41 rfl
      have g0_32_o_41 : o_41.1 0 32 = o24.1 0 32 := fc_o_41.1 0 32 rfl
      have g0_10_o_41 : o_41.1 0 10 = o24.1 0 10 := fc_o_41.1 0 10 rfl
      have g0_27_o_41 : o_41.1 0 27 = o24.1 0 27 := fc_o_41.1 0 27 rfl
      have g0_4_o_41 : o_41.1 0 4 = o24.1 0 4 := fc_o_41.1 0 4 rfl
      have g0_17_o_41 : o_41.1 0 17 = o24.1 0 17 := fc_o_41.1 0 17 rfl
      show T (b_X12_digest_276 o_41 x1) _
      unfold b_X12_digest_276
      refine T_some ?_
      show (BoxM o_41 ∧ (Fr [(0, 76)] i_o o_41) ∧ (0 ≤ (x1 + 1) ∧ (x1 + 1) ≤ 6)) ∧ (6 - (x1 + 1)).toNat < (6 - x1).toNat
      exact ⟨⟨hB_o_41, fr_o_41, (by omega)⟩, by omega⟩
  ·
    refine T_some ?_
    show BoxM o ∧ (Fr [(0, 76)] i_o o)
    exact ⟨hB_o, fr_o⟩
set_option maxRecDepth 20000 in
set_option maxHeartbeats 4000000 in
theorem tl_X12_digest_284  (i_o : OO) (i_x1 : Int) (hB_i_o : BoxM i_o) (v0 : 0 ≤ i_x1 ∧ i_x1 ≤ 4) : T (loopW (fun s => l_X12_digest_284 s.1 s.2) (i_o, i_x1)) (fun r => BoxM r ∧ (Fr [(0, 76)] i_o r)) := by
  have fr_i_o : Fr [(0, 76)] i_o i_o := Fr.rf
  refine T_loop (fun s => BoxM s.1 ∧ (Fr [(0, 76)] i_o s.1) ∧ (0 ≤ s.2 ∧ s.2 ≤ 4)) (fun s => (4 - s.2).toNat) (by exact ⟨hB_i_o, fr_i_o, v0⟩) (fun s hs => ?_)
  obtain ⟨o, x1⟩ := s
  replace hs : BoxM o ∧ (Fr [(0, 76)] i_o o) ∧ (0 ≤ x1 ∧ x1 ≤ 4) := hs
  obtain ⟨hB_o, fr_o, w0⟩ := hs
  have g0_32_i := bM_0_32 hB_i_o
  have g0_32_o : o.1 0 32 = i_o.1 0 32 := fr_o.1 0 32 rfl
  have g0_10_i := bM_0_10 hB_i_o
  have g0_10_o : o.1 0 10 = i_o.1 0 10 := fr_o.1 0 10 rfl
  have g0_27_i := bM_0_27 hB_i_o
  have g0_27_o : o.1 0 27 = i_o.1 0 27 := fr_o.1 0 27 rfl
  have g0_4_i := bM_0_4 hB_i_o
  have g0_4_o : o.1 0 4 = i_o.1 0 4 := fr_o.1 0 4 rfl
  have g0_17_i := bM_0_17 hB_i_o
  have g0_17_o : o.1 0 17 = i_o.1 0 17 := fr_o.1 0 17 rfl
  show T (l_X12_digest_284 o x1) _
  unfold l_X12_digest_284
  refine T_qLt ⟨by omega, by omega⟩ ⟨by decide, by decide⟩ (fun h42 => ?_) (fun h42 => ?_)
  ·
    refine T_qIn ⟨by omega, by omega⟩ ?_
    refine T_qNm (fun n12 e_n12 => ?_)
    have b_n12 : -9 ≤ n12 ∧ n12 ≤ 40 := by rw [e_n12]; exact bM_5 hB_o _
    refine T_qLt ⟨by omega, by omega⟩ ⟨by decide, by decide⟩ (fun h43 => ?_) (fun h43 => ?_)
    ·
      unfold b_X12_digest_309
      refine T_qB (t_X12_mix o (-1) hB_o) (fun o10 hc_o10 hp44 => ?_)
      replace hp44 : BoxM o10 ∧ (Fr [(0, 76)] o o10) := hp44
      obtain ⟨hB_o10, fc_o10⟩ := hp44
      have fr_o10 : Fr [(0, 76)] i_o o10 := Fr.tr fr_o fc_o10 rfl
      have g0_32_o10 : o10.1 0 32 = o.1 0 32 := fc_o10.1 0 32 rfl
      have g0_10_o10 : o10.1 0 10 = o.1 0 10 := fc_o10.1 0 10 rfl
      have g0_27_o10 : o10.1 0 27 = o.1 0 27 := fc_o10.1 0 27 rfl
      have g0_4_o10 : o10.1 0 4 = o.1 0 4 := fc_o10.1 0 4 rfl
      have g0_17_o10 : o10.1 0 17 = o.1 0 17 := fc_o10.1 0 17 rfl
      unfold e_X12_digest_314
      refine T_qB (tl_X12_digest_314 x1 o10 0 hB_o10 (by omega) (by omega) (by omega)) (fun r45 hc_r45 hp46 => ?_)
      obtain ⟨o_47, q_o_47⟩ : ∃ q, q = r45 := ⟨_, rfl⟩
      subst q_o_47
      replace hp46 : BoxM o_47 ∧ (Fr [(0, 76)] o10 o_47) := hp46
      have hps_hp46 := hp46
      obtain ⟨hp46_0, hp46_1⟩ := hps_hp46
      obtain ⟨hB_o_47, fc_o_47⟩ := hp46
      have fr_o_47 : Fr [(0, 76)] i_o o_47 := Fr.tr fr_o10 fc_o_47 rfl
      have g0_32_o_47 : o_47.1 0 32 = o10.1 0 32 := fc_o_47.1 0 32 rfl
      have g0_10_o_47 : o_47.1 0 10 = o10.1 0 10 := fc_o_47.1 0 10 rfl
      have g0_27_o_47 : o_47.1 0 27 = o10.1 0 27 := fc_o_47.1 0 27 rfl
      have g0_4_o_47 : o_47.1 0 4 = o10.1 0 4 := fc_o_47.1 0 4 rfl
      have g0_17_o_47 : o_47.1 0 17 = o10.1 0 17 := fc_o_47.1 0 17 rfl
      show T (b_X12_digest_345 o_47 x1) _
      unfold b_X12_digest_345
      refine T_some ?_
      show (BoxM o_47 ∧ (Fr [(0, 76)] i_o o_47) ∧ (0 ≤ (x1 + 1) ∧ (x1 + 1) ≤ 4)) ∧ (4 - (x1 + 1)).toNat < (4 - x1).toNat
      exact ⟨⟨hB_o_47, fr_o_47, (by omega)⟩, by omega⟩
    ·
      refine T_qIn ⟨by omega, by omega⟩ ?_
      refine T_qNm (fun n14 e_n14 => ?_)
      have b_n14 : -9 ≤ n14 ∧ n14 ≤ 40 := by rw [e_n14]; exact bM_5 hB_o _
      unfold b_X12_digest_309
      refine T_qB (t_X12_mix o n14 hB_o) (fun o10 hc_o10 hp48 => ?_)
      replace hp48 : BoxM o10 ∧ (Fr [(0, 76)] o o10) := hp48
      obtain ⟨hB_o10, fc_o10⟩ := hp48
      have fr_o10 : Fr [(0, 76)] i_o o10 := Fr.tr fr_o fc_o10 rfl
      have g0_32_o10 : o10.1 0 32 = o.1 0 32 := fc_o10.1 0 32 rfl
      have g0_10_o10 : o10.1 0 10 = o.1 0 10 := fc_o10.1 0 10 rfl
      have g0_27_o10 : o10.1 0 27 = o.1 0 27 := fc_o10.1 0 27 rfl
      have g0_4_o10 : o10.1 0 4 = o.1 0 4 := fc_o10.1 0 4 rfl
      have g0_17_o10 : o10.1 0 17 = o.1 0 17 := fc_o10.1 0 17 rfl
      unfold e_X12_digest_314
      refine T_qB (tl_X12_digest_314 x1 o10 0 hB_o10 (by omega) (by omega) (by omega)) (fun r49 hc_r49 hp50 => ?_)
      obtain ⟨o_51, q_o_51⟩ : ∃ q, q = r49 := ⟨_, rfl⟩
      subst q_o_51
      replace hp50 : BoxM o_51 ∧ (Fr [(0, 76)] o10 o_51) := hp50
      have hps_hp50 := hp50
      obtain ⟨hp50_0, hp50_1⟩ := hps_hp50
      obtain ⟨hB_o_51, fc_o_51⟩ := hp50
      have fr_o_51 : Fr [(0, 76)] i_o o_51 := Fr.tr fr_o10 fc_o_51 rfl
      have g0_32_o_51 : o_51.1 0 32 = o10.1 0 32 := fc_o_51.1 0 32 rfl
      have g0_10_o_51 : o_51.1 0 10 = o10.1 0 10 := fc_o_51.1 0 10 rfl
      have g0_27_o_51 : o_51.1 0 27 = o10.1 0 27 := fc_o_51.1 0 27 rfl
      have g0_4_o_51 : o_51.1 0 4 = o10.1 0 4 := fc_o_51.1 0 4 rfl
      have g0_17_o_51 : o_51.1 0 17 = o10.1 0 17 := fc_o_51.1 0 17 rfl
      show T (b_X12_digest_345 o_51 x1) _
      unfold b_X12_digest_345
      refine T_some ?_
      show (BoxM o_51 ∧ (Fr [(0, 76)] i_o o_51) ∧ (0 ≤ (x1 + 1) ∧ (x1 + 1) ≤ 4)) ∧ (4 - (x1 + 1)).toNat < (4 - x1).toNat
      exact ⟨⟨hB_o_51, fr_o_51, (by omega)⟩, by omega⟩
  ·
    refine T_some ?_
    show BoxM o ∧ (Fr [(0, 76)] i_o o)
    exact ⟨hB_o, fr_o⟩
set_option maxRecDepth 20000 in
set_option maxHeartbeats 4000000 in
theorem t_X12_digest (o : OO) (hB_o : BoxM o) : T (s_X12_digest o) (fun v => BoxM v.2 ∧ (Fr [(0, 76)] o v.2)) := by
  have fr_o : Fr [(0, 76)] o o := Fr.rf
  have g0_32_o := bM_0_32 hB_o
  have g0_10_o := bM_0_10 hB_o
  have g0_27_o := bM_0_27 hB_o
  have g0_4_o := bM_0_4 hB_o
  have g0_17_o := bM_0_17 hB_o
  unfold s_X12_digest
  refine T_qNm (fun o72 e_o72 => ?_)
  have hB_o72 : BoxM o72 := by rw [e_o72]; exact Box.s2 hB_o
  have fr_o72 : Fr [(0, 76)] o o72 := by rw [e_o72]; exact Fr.s2 fr_o rfl
  have g0_32_o72 : o72.1 0 32 = o.1 0 32 := by rw [e_o72]; rfl
  have g0_10_o72 : o72.1 0 10 = o.1 0 10 := by rw [e_o72]; rfl
  have g0_27_o72 : o72.1 0 27 = o.1 0 27 := by rw [e_o72]; rfl
  have g0_4_o72 : o72.1 0 4 = o.1 0 4 := by rw [e_o72]; rfl
  have g0_17_o72 : o72.1 0 17 = o.1 0 17 := by rw [e_o72]; rfl
  unfold e_X12_digest_9
  refine T_qB (tl_X12_digest_9 o72 0 hB_o72 (by omega)) (fun r52 hc_r52 hp53 => ?_)
  obtain ⟨o_54, q_o_54⟩ : ∃ q, q = r52 := ⟨_, rfl⟩
  subst q_o_54
  replace hp53 : BoxM o_54 ∧ (Fr [(0, 76)] o72 o_54) := hp53
  have hps_hp53 := hp53
  obtain ⟨hp53_0, hp53_1⟩ := hps_hp53
  obtain ⟨hB_o_54, fc_o_54⟩ := hp53
  have fr_o_54 : Fr [(0, 76)] o o_54 := Fr.tr fr_o72 fc_o_54 rfl
  have g0_32_o_54 : o_54.1 0 32 = o72.1 0 32 := fc_o_54.1 0 32 rfl
  have g0_10_o_54 : o_54.1 0 10 = o72.1 0 10 := fc_o_54.1 0 10 rfl
  have g0_27_o_54 : o_54.1 0 27 = o72.1 0 27 := fc_o_54.1 0 27 rfl
  have g0_4_o_54 : o_54.1 0 4 = o72.1 0 4 := fc_o_54.1 0 4 rfl
  have g0_17_o_54 : o_54.1 0 17 = o72.1 0 17 := fc_o_54.1 0 17 rfl
  show T (b_X12_digest_30 o_54) _
  unfold b_X12_digest_30
  unfold e_X12_digest_32
  refine T_qB (tl_X12_digest_32 o_54 0 hB_o_54 (by omega)) (fun r55 hc_r55 hp56 => ?_)
  obtain ⟨o_57, q_o_57⟩ : ∃ q, q = r55 := ⟨_, rfl⟩
  subst q_o_57
  replace hp56 : BoxM o_57 ∧ (Fr [(0, 76)] o_54 o_57) := hp56
  have hps_hp56 := hp56
  obtain ⟨hp56_0, hp56_1⟩ := hps_hp56
  obtain ⟨hB_o_57, fc_o_57⟩ := hp56
  have fr_o_57 : Fr [(0, 76)] o o_57 := Fr.tr fr_o_54 fc_o_57 rfl
  have g0_32_o_57 : o_57.1 0 32 = o_54.1 0 32 := fc_o_57.1 0 32 rfl
  have g0_10_o_57 : o_57.1 0 10 = o_54.1 0 10 := fc_o_57.1 0 10 rfl
  have g0_27_o_57 : o_57.1 0 27 = o_54.1 0 27 := fc_o_57.1 0 27 rfl
  have g0_4_o_57 : o_57.1 0 4 = o_54.1 0 4 := fc_o_57.1 0 4 rfl
  have g0_17_o_57 : o_57.1 0 17 = o_54.1 0 17 := fc_o_57.1 0 17 rfl
  show T (b_X12_digest_64 o_57) _
  unfold b_X12_digest_64
  unfold e_X12_digest_66
  refine T_qB (tl_X12_digest_66 o_57 0 hB_o_57 (by omega)) (fun r58 hc_r58 hp59 => ?_)
  obtain ⟨o_60, q_o_60⟩ : ∃ q, q = r58 := ⟨_, rfl⟩
  subst q_o_60
  replace hp59 : BoxM o_60 ∧ (Fr [(0, 76)] o_57 o_60) := hp59
  have hps_hp59 := hp59
  obtain ⟨hp59_0, hp59_1⟩ := hps_hp59
  obtain ⟨hB_o_60, fc_o_60⟩ := hp59
  have fr_o_60 : Fr [(0, 76)] o o_60 := Fr.tr fr_o_57 fc_o_60 rfl
  have g0_32_o_60 : o_60.1 0 32 = o_57.1 0 32 := fc_o_60.1 0 32 rfl
  have g0_10_o_60 : o_60.1 0 10 = o_57.1 0 10 := fc_o_60.1 0 10 rfl
  have g0_27_o_60 : o_60.1 0 27 = o_57.1 0 27 := fc_o_60.1 0 27 rfl
  have g0_4_o_60 : o_60.1 0 4 = o_57.1 0 4 := fc_o_60.1 0 4 rfl
  have g0_17_o_60 : o_60.1 0 17 = o_57.1 0 17 := fc_o_60.1 0 17 rfl
  show T (b_X12_digest_116 o_60) _
  unfold b_X12_digest_116
  unfold e_X12_digest_118
  refine T_qB (tl_X12_digest_118 o_60 0 hB_o_60 (by omega)) (fun r61 hc_r61 hp62 => ?_)
  obtain ⟨o_63, q_o_63⟩ : ∃ q, q = r61 := ⟨_, rfl⟩
  subst q_o_63
  replace hp62 : BoxM o_63 ∧ (Fr [(0, 76)] o_60 o_63) := hp62
  have hps_hp62 := hp62
  obtain ⟨hp62_0, hp62_1⟩ := hps_hp62
  obtain ⟨hB_o_63, fc_o_63⟩ := hp62
  have fr_o_63 : Fr [(0, 76)] o o_63 := Fr.tr fr_o_60 fc_o_63 rfl
  have g0_32_o_63 : o_63.1 0 32 = o_60.1 0 32 := fc_o_63.1 0 32 rfl
  have g0_10_o_63 : o_63.1 0 10 = o_60.1 0 10 := fc_o_63.1 0 10 rfl
  have g0_27_o_63 : o_63.1 0 27 = o_60.1 0 27 := fc_o_63.1 0 27 rfl
  have g0_4_o_63 : o_63.1 0 4 = o_60.1 0 4 := fc_o_63.1 0 4 rfl
  have g0_17_o_63 : o_63.1 0 17 = o_60.1 0 17 := fc_o_63.1 0 17 rfl
  show T (b_X12_digest_155 o_63) _
  unfold b_X12_digest_155
  unfold e_X12_digest_157
  refine T_qB (tl_X12_digest_157 o_63 0 hB_o_63 (by omega)) (fun r64 hc_r64 hp65 => ?_)
  obtain ⟨o_66, q_o_66⟩ : ∃ q, q = r64 := ⟨_, rfl⟩
  subst q_o_66
  replace hp65 : BoxM o_66 ∧ (Fr [(0, 76)] o_63 o_66) := hp65
  have hps_hp65 := hp65
  obtain ⟨hp65_0, hp65_1⟩ := hps_hp65
  obtain ⟨hB_o_66, fc_o_66⟩ := hp65
  have fr_o_66 : Fr [(0, 76)] o o_66 := Fr.tr fr_o_63 fc_o_66 rfl
  have g0_32_o_66 : o_66.1 0 32 = o_63.1 0 32 := fc_o_66.1 0 32 rfl
  have g0_10_o_66 : o_66.1 0 10 = o_63.1 0 10 := fc_o_66.1 0 10 rfl
  have g0_27_o_66 : o_66.1 0 27 = o_63.1 0 27 := fc_o_66.1 0 27 rfl
  have g0_4_o_66 : o_66.1 0 4 = o_63.1 0 4 := fc_o_66.1 0 4 rfl
  have g0_17_o_66 : o_66.1 0 17 = o_63.1 0 17 := fc_o_66.1 0 17 rfl
  show T (b_X12_digest_191 o_66) _
  unfold b_X12_digest_191
  unfold e_X12_digest_193
  refine T_qB (tl_X12_digest_193 o_66 0 hB_o_66 (by omega)) (fun r67 hc_r67 hp68 => ?_)
  obtain ⟨o_69, q_o_69⟩ : ∃ q, q = r67 := ⟨_, rfl⟩
  subst q_o_69
  replace hp68 : BoxM o_69 ∧ (Fr [(0, 76)] o_66 o_69) := hp68
  have hps_hp68 := hp68
  obtain ⟨hp68_0, hp68_1⟩ := hps_hp68
  obtain ⟨hB_o_69, fc_o_69⟩ := hp68
  have fr_o_69 : Fr [(0, 76)] o o_69 := Fr.tr fr_o_66 fc_o_69 rfl
  have g0_32_o_69 : o_69.1 0 32 = o_66.1 0 32 := fc_o_69.1 0 32 rfl
  have g0_10_o_69 : o_69.1 0 10 = o_66.1 0 10 := fc_o_69.1 0 10 rfl
  have g0_27_o_69 : o_69.1 0 27 = o_66.1 0 27 := fc_o_69.1 0 27 rfl
  have g0_4_o_69 : o_69.1 0 4 = o_66.1 0 4 := fc_o_69.1 0 4 rfl
  have g0_17_o_69 : o_69.1 0 17 = o_66.1 0 17 := fc_o_69.1 0 17 rfl
  show T (b_X12_digest_212 o_69) _
  unfold b_X12_digest_212
  unfold e_X12_digest_214
  refine T_qB (tl_X12_digest_214 o_69 0 hB_o_69 (by omega)) (fun r70 hc_r70 hp71 => ?_)
  obtain ⟨o_72, q_o_72⟩ : ∃ q, q = r70 := ⟨_, rfl⟩
  subst q_o_72
  replace hp71 : BoxM o_72 ∧ (Fr [(0, 76)] o_69 o_72) := hp71
  have hps_hp71 := hp71
  obtain ⟨hp71_0, hp71_1⟩ := hps_hp71
  obtain ⟨hB_o_72, fc_o_72⟩ := hp71
  have fr_o_72 : Fr [(0, 76)] o o_72 := Fr.tr fr_o_69 fc_o_72 rfl
  have g0_32_o_72 : o_72.1 0 32 = o_69.1 0 32 := fc_o_72.1 0 32 rfl
  have g0_10_o_72 : o_72.1 0 10 = o_69.1 0 10 := fc_o_72.1 0 10 rfl
  have g0_27_o_72 : o_72.1 0 27 = o_69.1 0 27 := fc_o_72.1 0 27 rfl
  have g0_4_o_72 : o_72.1 0 4 = o_69.1 0 4 := fc_o_72.1 0 4 rfl
  have g0_17_o_72 : o_72.1 0 17 = o_69.1 0 17 := fc_o_72.1 0 17 rfl
  show T (b_X12_digest_282 o_72) _
  unfold b_X12_digest_282
  unfold e_X12_digest_284
  refine T_qB (tl_X12_digest_284 o_72 0 hB_o_72 (by omega)) (fun r73 hc_r73 hp74 => ?_)
  obtain ⟨o_75, q_o_75⟩ : ∃ q, q = r73 := ⟨_, rfl⟩
  subst q_o_75
  replace hp74 : BoxM o_75 ∧ (Fr [(0, 76)] o_72 o_75) := hp74
  have hps_hp74 := hp74
  obtain ⟨hp74_0, hp74_1⟩ := hps_hp74
  obtain ⟨hB_o_75, fc_o_75⟩ := hp74
  have fr_o_75 : Fr [(0, 76)] o o_75 := Fr.tr fr_o_72 fc_o_75 rfl
  have g0_32_o_75 : o_75.1 0 32 = o_72.1 0 32 := fc_o_75.1 0 32 rfl
  have g0_10_o_75 : o_75.1 0 10 = o_72.1 0 10 := fc_o_75.1 0 10 rfl
  have g0_27_o_75 : o_75.1 0 27 = o_72.1 0 27 := fc_o_75.1 0 27 rfl
  have g0_4_o_75 : o_75.1 0 4 = o_72.1 0 4 := fc_o_75.1 0 4 rfl
  have g0_17_o_75 : o_75.1 0 17 = o_72.1 0 17 := fc_o_75.1 0 17 rfl
  show T (b_X12_digest_351 o_75) _
  unfold b_X12_digest_351
  refine T_some ?_
  show BoxM o_75 ∧ (Fr [(0, 76)] o o_75)
  exact ⟨hB_o_75, fr_o_75⟩
set_option maxRecDepth 20000 in
set_option maxHeartbeats 4000000 in
theorem tl_X12_heard_6 (o : OO) (x1 : Int) (x2 : Int) (i_x3 : Int) (i_x4 : Int) (hB_o : BoxM o) (k0 : inR x1) (k1 : inR x2) (v0 : 0 ≤ i_x4 ∧ i_x4 ≤ o.1 0 52) (v1 : -9 ≤ i_x3 ∧ i_x3 ≤ 999) : T (loopW (fun s => l_X12_heard_6 o x1 x2 s.1 s.2) (i_x3, i_x4)) (fun r => (-9 ≤ r ∧ r ≤ 999)) := by
  refine T_loop (fun s => (0 ≤ s.2 ∧ s.2 ≤ o.1 0 52) ∧ (-9 ≤ s.1 ∧ s.1 ≤ 999)) (fun s => (o.1 0 52 - s.2).toNat) (by exact ⟨v0, v1⟩) (fun s hs => ?_)
  obtain ⟨x3, x4⟩ := s
  replace hs : (0 ≤ x4 ∧ x4 ≤ o.1 0 52) ∧ (-9 ≤ x3 ∧ x3 ≤ 999) := hs
  obtain ⟨w0, w1⟩ := hs
  have g0_52_o := bM_0_52 hB_o
  show T (l_X12_heard_6 o x1 x2 x3 x4) _
  unfold l_X12_heard_6
  refine T_qLt ⟨by omega, by omega⟩ ⟨by omega, by omega⟩ (fun h1 => ?_) (fun h1 => ?_)
  ·
    refine T_qIn ⟨by omega, by omega⟩ ?_
    refine T_qNm (fun n2 e_n2 => ?_)
    have b_n2 : 0 ≤ n2 ∧ n2 ≤ 39 := by rw [e_n2]; exact bM_43 hB_o _
    refine T_qEq ⟨by omega, by omega⟩ ⟨by omega, by omega⟩ (fun h2 => ?_) (fun h2 => ?_)
    ·
      refine T_qIn ⟨by omega, by omega⟩ ?_
      refine T_qNm (fun n4 e_n4 => ?_)
      have b_n4 : 0 ≤ n4 ∧ n4 ≤ 23 := by rw [e_n4]; exact bM_44 hB_o _
      refine T_qEq ⟨by omega, by omega⟩ ⟨by omega, by omega⟩ (fun h3 => ?_) (fun h3 => ?_)
      ·
        refine T_qIn ⟨by omega, by omega⟩ ?_
        refine T_qNm (fun n6 e_n6 => ?_)
        have b_n6 : 0 ≤ n6 ∧ n6 ≤ 999 := by rw [e_n6]; exact bM_45 hB_o _
        unfold b_X12_heard_48
        refine T_some ?_
        show ((0 ≤ (x4 + 1) ∧ (x4 + 1) ≤ o.1 0 52) ∧ (-9 ≤ n6 ∧ n6 ≤ 999)) ∧ (o.1 0 52 - (x4 + 1)).toNat < (o.1 0 52 - x4).toNat
        exact ⟨⟨(by omega), (by omega)⟩, by omega⟩
      ·
        unfold b_X12_heard_47
        unfold b_X12_heard_48
        refine T_some ?_
        show ((0 ≤ (x4 + 1) ∧ (x4 + 1) ≤ o.1 0 52) ∧ (-9 ≤ x3 ∧ x3 ≤ 999)) ∧ (o.1 0 52 - (x4 + 1)).toNat < (o.1 0 52 - x4).toNat
        exact ⟨⟨(by omega), (by omega)⟩, by omega⟩
    ·
      unfold b_X12_heard_47
      unfold b_X12_heard_48
      refine T_some ?_
      show ((0 ≤ (x4 + 1) ∧ (x4 + 1) ≤ o.1 0 52) ∧ (-9 ≤ x3 ∧ x3 ≤ 999)) ∧ (o.1 0 52 - (x4 + 1)).toNat < (o.1 0 52 - x4).toNat
      exact ⟨⟨(by omega), (by omega)⟩, by omega⟩
  ·
    refine T_some ?_
    show (-9 ≤ x3 ∧ x3 ≤ 999)
    exact (by omega)
set_option maxRecDepth 20000 in
set_option maxHeartbeats 4000000 in
theorem t_X12_heard (o : OO) (x1 : Int) (x2 : Int) (hB_o : BoxM o) (k0 : inR x1) (k1 : inR x2) : T (s_X12_heard o x1 x2) (fun v => (-9 ≤ v ∧ v ≤ 999)) := by
  have g0_52_o := bM_0_52 hB_o
  unfold s_X12_heard
  unfold e_X12_heard_6
  refine T_qB (tl_X12_heard_6 o x1 x2 (-9) 0 hB_o (by omega) (by omega) (by omega) (by omega)) (fun r4 hc_r4 hp5 => ?_)
  obtain ⟨x3_6, q_x3_6⟩ : ∃ q, q = r4 := ⟨_, rfl⟩
  subst q_x3_6
  replace hp5 : (-9 ≤ x3_6 ∧ x3_6 ≤ 999) := hp5
  show T (b_X12_heard_55 o x3_6) _
  unfold b_X12_heard_55
  refine T_some ?_
  show (-9 ≤ x3_6 ∧ x3_6 ≤ 999)
  exact (by omega)
set_option maxRecDepth 20000 in
set_option maxHeartbeats 4000000 in
theorem t_X12_knew (o : OO) (x1 : Int) (x2 : Int) (x3 : Int) (hB_o : BoxM o) (k0 : inR x1) (k1 : inR x2) (k2 : inR x3) : T (s_X12_knew o x1 x2 x3) (fun v => (0 ≤ v ∧ v ≤ 1)) := by
  unfold s_X12_knew
  refine T_qB (t_X12_heard o x1 x2 hB_o (by omega) (by omega)) (fun r1 hc_r1 hp1 => ?_)
  replace hp1 : (-9 ≤ r1 ∧ r1 ≤ 999) := hp1
  refine T_qLt ⟨by omega, by omega⟩ ⟨by decide, by decide⟩ (fun h2 => ?_) (fun h2 => ?_)
  ·
    unfold b_X12_knew_23
    unfold b_X12_knew_24
    refine T_qZ (Or.inl rfl) ?_
    refine T_some ?_
    show (0 ≤ 0 ∧ 0 ≤ 1)
    exact (by omega)
  ·
    refine T_qLt ⟨by omega, by omega⟩ ⟨by omega, by omega⟩ (fun h3 => ?_) (fun h3 => ?_)
    ·
      unfold b_X12_knew_23
      unfold b_X12_knew_24
      refine T_qZ (Or.inl rfl) ?_
      refine T_some ?_
      show (0 ≤ 0 ∧ 0 ≤ 1)
      exact (by omega)
    ·
      unfold b_X12_knew_24
      refine T_qZ (Or.inr rfl) ?_
      refine T_some ?_
      show (0 ≤ 1 ∧ 1 ≤ 1)
      exact (by omega)
set_option maxRecDepth 20000 in
set_option maxHeartbeats 4000000 in
theorem tl_X12_early_95 (o : OO) (x1 : Int) (x3 : Int) (x4 : Int) (x5 : Int) (i_x7 : Int) (i_x8 : Int) (hB_o : BoxM o) (k0 : inR x1) (k1 : 0 ≤ x3 ∧ x3 ≤ x5) (k2 : 0 ≤ x4 ∧ x4 ≤ x5) (k3 : 0 ≤ x5 ∧ x5 ≤ o.1 0 48) (k4 : 0 ≤ x1 ∧ x1 ≤ 23) (k5 : x5 < o.1 0 48) (k6 : 0 ≤ x1 ∧ x1 ≤ 23) (v0 : 0 ≤ i_x7 ∧ i_x7 ≤ 1) (v1 : 0 ≤ i_x8 ∧ i_x8 ≤ o.1 0 27) : T (loopW (fun s => l_X12_early_95 o x1 x3 x4 x5 s.1 s.2) (i_x7, i_x8)) (fun r => (0 ≤ r ∧ r ≤ 1)) := by
  refine T_loop (fun s => (0 ≤ s.1 ∧ s.1 ≤ 1) ∧ (0 ≤ s.2 ∧ s.2 ≤ o.1 0 27)) (fun s => (o.1 0 27 - s.2).toNat) (by exact ⟨v0, v1⟩) (fun s hs => ?_)
  obtain ⟨x7, x8⟩ := s
  replace hs : (0 ≤ x7 ∧ x7 ≤ 1) ∧ (0 ≤ x8 ∧ x8 ≤ o.1 0 27) := hs
  obtain ⟨w0, w1⟩ := hs
  have g0_27_o := bM_0_27 hB_o
  have g0_48_o := bM_0_48 hB_o
  have g0_32_o := bM_0_32 hB_o
  show T (l_X12_early_95 o x1 x3 x4 x5 x7 x8) _
  unfold l_X12_early_95
  refine T_qLt ⟨by omega, by omega⟩ ⟨by omega, by omega⟩ (fun h1 => ?_) (fun h1 => ?_)
  ·
    refine T_qEq ⟨by omega, by omega⟩ ⟨by decide, by decide⟩ (fun h2 => ?_) (fun h2 => ?_)
    ·
      refine T_qIn ⟨by omega, by omega⟩ ?_
      refine T_qNm (fun n10 e_n10 => ?_)
      have b_n10 : 0 ≤ n10 ∧ n10 ≤ 39 := by rw [e_n10]; exact bM_41 hB_o _
      refine T_qEq ⟨by omega, by omega⟩ ⟨by omega, by omega⟩ (fun h3 => ?_) (fun h3 => ?_)
      ·
        unfold b_X12_early_164
        unfold b_X12_early_165
        refine T_some ?_
        show ((0 ≤ 0 ∧ 0 ≤ 1) ∧ (0 ≤ (x8 + 1) ∧ (x8 + 1) ≤ o.1 0 27)) ∧ (o.1 0 27 - (x8 + 1)).toNat < (o.1 0 27 - x8).toNat
        exact ⟨⟨(by omega), (by omega)⟩, by omega⟩
      ·
        refine T_qIn ⟨by omega, by omega⟩ ?_
        refine T_qNm (fun n12 e_n12 => ?_)
        have b_n12 : 0 ≤ n12 ∧ n12 ≤ 9 := by rw [e_n12]; exact bM_24 hB_o _
        refine T_qIn ⟨by omega, by omega⟩ ?_
        refine T_qNm (fun n14 e_n14 => ?_)
        have b_n14 : 0 ≤ n14 ∧ n14 ≤ 39 := by rw [e_n14]; exact bM_41 hB_o _
        refine T_qIn ⟨by omega, by omega⟩ ?_
        refine T_qNm (fun n16 e_n16 => ?_)
        have b_n16 : 0 ≤ n16 ∧ n16 ≤ 9 := by rw [e_n16]; exact bM_24 hB_o _
        refine T_qEq ⟨by omega, by omega⟩ ⟨by omega, by omega⟩ (fun h4 => ?_) (fun h4 => ?_)
        ·
          refine T_qIn ⟨by omega, by omega⟩ ?_
          refine T_qNm (fun n18 e_n18 => ?_)
          have b_n18 : 0 ≤ n18 ∧ n18 ≤ 999 := by rw [e_n18]; exact bM_42 hB_o _
          refine T_qB (t_X12_knew o x8 x1 n18 hB_o (by omega) (by omega) (by omega)) (fun r19 hc_r19 hp5 => ?_)
          replace hp5 : (0 ≤ r19 ∧ r19 ≤ 1) := hp5
          refine T_qEq ⟨by omega, by omega⟩ ⟨by decide, by decide⟩ (fun h6 => ?_) (fun h6 => ?_)
          ·
            unfold b_X12_early_164
            unfold b_X12_early_165
            refine T_some ?_
            show ((0 ≤ 0 ∧ 0 ≤ 1) ∧ (0 ≤ (x8 + 1) ∧ (x8 + 1) ≤ o.1 0 27)) ∧ (o.1 0 27 - (x8 + 1)).toNat < (o.1 0 27 - x8).toNat
            exact ⟨⟨(by omega), (by omega)⟩, by omega⟩
          ·
            unfold b_X12_early_160
            unfold b_X12_early_165
            refine T_some ?_
            show ((0 ≤ 1 ∧ 1 ≤ 1) ∧ (0 ≤ (x8 + 1) ∧ (x8 + 1) ≤ o.1 0 27)) ∧ (o.1 0 27 - (x8 + 1)).toNat < (o.1 0 27 - x8).toNat
            exact ⟨⟨(by omega), (by omega)⟩, by omega⟩
        ·
          unfold b_X12_early_164
          unfold b_X12_early_165
          refine T_some ?_
          show ((0 ≤ 0 ∧ 0 ≤ 1) ∧ (0 ≤ (x8 + 1) ∧ (x8 + 1) ≤ o.1 0 27)) ∧ (o.1 0 27 - (x8 + 1)).toNat < (o.1 0 27 - x8).toNat
          exact ⟨⟨(by omega), (by omega)⟩, by omega⟩
    ·
      unfold b_X12_early_160
      unfold b_X12_early_165
      refine T_some ?_
      show ((0 ≤ 1 ∧ 1 ≤ 1) ∧ (0 ≤ (x8 + 1) ∧ (x8 + 1) ≤ o.1 0 27)) ∧ (o.1 0 27 - (x8 + 1)).toNat < (o.1 0 27 - x8).toNat
      exact ⟨⟨(by omega), (by omega)⟩, by omega⟩
  ·
    refine T_some ?_
    show (0 ≤ x7 ∧ x7 ≤ 1)
    exact (by omega)
set_option maxRecDepth 20000 in
set_option maxHeartbeats 4000000 in
theorem tl_X12_early_20 (o : OO) (x1 : Int) (i_x3 : Int) (i_x4 : Int) (i_x5 : Int) (hB_o : BoxM o) (k0 : inR x1) (k1 : 0 ≤ x1 ∧ x1 ≤ 23) (v0 : 0 ≤ i_x3 ∧ i_x3 ≤ i_x5) (v1 : 0 ≤ i_x4 ∧ i_x4 ≤ i_x5) (v2 : 0 ≤ i_x5 ∧ i_x5 ≤ o.1 0 48) : T (loopW (fun s => l_X12_early_20 o x1 s.1 s.2.1 s.2.2) (i_x3, i_x4, i_x5)) (fun r => (0 ≤ r.1 ∧ r.1 ≤ o.1 0 48) ∧ (0 ≤ r.2 ∧ r.2 ≤ o.1 0 48)) := by
  refine T_loop (fun s => (0 ≤ s.1 ∧ s.1 ≤ s.2.2) ∧ (0 ≤ s.2.1 ∧ s.2.1 ≤ s.2.2) ∧ (0 ≤ s.2.2 ∧ s.2.2 ≤ o.1 0 48)) (fun s => (o.1 0 48 - s.2.2).toNat) (by exact ⟨v0, v1, v2⟩) (fun s hs => ?_)
  obtain ⟨x3, x4, x5⟩ := s
  replace hs : (0 ≤ x3 ∧ x3 ≤ x5) ∧ (0 ≤ x4 ∧ x4 ≤ x5) ∧ (0 ≤ x5 ∧ x5 ≤ o.1 0 48) := hs
  obtain ⟨w0, w1, w2⟩ := hs
  have g0_27_o := bM_0_27 hB_o
  have g0_48_o := bM_0_48 hB_o
  have g0_32_o := bM_0_32 hB_o
  show T (l_X12_early_20 o x1 x3 x4 x5) _
  unfold l_X12_early_20
  refine T_qLt ⟨by omega, by omega⟩ ⟨by omega, by omega⟩ (fun h7 => ?_) (fun h7 => ?_)
  ·
    refine T_qIn ⟨by omega, by omega⟩ ?_
    refine T_qNm (fun n30 e_n30 => ?_)
    have b_n30 : -9 ≤ n30 ∧ n30 ≤ 999 := by rw [e_n30]; exact bM_29 hB_o _
    refine T_qLt ⟨by omega, by omega⟩ ⟨by decide, by decide⟩ (fun h8 => ?_) (fun h8 => ?_)
    ·
      unfold b_X12_early_54
      unfold b_X12_early_59
      refine T_qEq ⟨by decide, by decide⟩ ⟨by decide, by decide⟩ (fun h9 => ?_) (fun h9 => ?_)
      ·
        unfold b_X12_early_227
        refine T_some ?_
        show ((0 ≤ x3 ∧ x3 ≤ (x5 + 1)) ∧ (0 ≤ x4 ∧ x4 ≤ (x5 + 1)) ∧ (0 ≤ (x5 + 1) ∧ (x5 + 1) ≤ o.1 0 48)) ∧ (o.1 0 48 - (x5 + 1)).toNat < (o.1 0 48 - x5).toNat
        exact ⟨⟨(by omega), (by omega), (by omega)⟩, by omega⟩
      ·
        refine T_qB (t_X12_cellsOf o x1 hB_o (by omega)) (fun p21 hc_p21 hp10 => ?_)
        refine T_qIn ⟨by omega, by omega⟩ ?_
        refine T_qNm (fun n24 e_n24 => ?_)
        have b_n24 : 0 ≤ n24 ∧ n24 ≤ 31 := by rw [e_n24]; exact bM_40 hB_o _
        refine T_qIn ⟨by omega, by omega⟩ ?_
        refine T_qNm (fun n26 e_n26 => ?_)
        have b_n26 : 0 ≤ n26 ∧ n26 ≤ 63 := by rw [e_n26]; exact bM_13 hB_o _
        refine T_qB (t_X12_has p21 n26 (by omega)) (fun r27 hc_r27 hp11 => ?_)
        replace hp11 : ((r27 = 1 ∧ bt p21 n26.toNat = true) ∨ (r27 = 0 ∧ bt p21 n26.toNat = false)) := hp11
        refine T_qEq ⟨by omega, by omega⟩ ⟨by decide, by decide⟩ (fun h12 => ?_) (fun h12 => ?_)
        ·
          unfold b_X12_early_227
          refine T_some ?_
          show ((0 ≤ x3 ∧ x3 ≤ (x5 + 1)) ∧ (0 ≤ x4 ∧ x4 ≤ (x5 + 1)) ∧ (0 ≤ (x5 + 1) ∧ (x5 + 1) ≤ o.1 0 48)) ∧ (o.1 0 48 - (x5 + 1)).toNat < (o.1 0 48 - x5).toNat
          exact ⟨⟨(by omega), (by omega), (by omega)⟩, by omega⟩
        ·
          unfold e_X12_early_95
          refine T_qB (tl_X12_early_95 o x1 x3 x4 x5 0 0 hB_o (by omega) (by omega) (by omega) (by omega) (by omega) (by omega) (by omega) (by omega) (by omega)) (fun r13 hc_r13 hp14 => ?_)
          obtain ⟨x7_15, q_x7_15⟩ : ∃ q, q = r13 := ⟨_, rfl⟩
          subst q_x7_15
          replace hp14 : (0 ≤ x7_15 ∧ x7_15 ≤ 1) := hp14
          show T (b_X12_early_173 o x1 x3 x4 x5 x7_15) _
          unfold b_X12_early_173
          refine T_qIn ⟨by omega, by omega⟩ ?_
          refine T_qNm (fun n4 e_n4 => ?_)
          have b_n4 : 0 ≤ n4 ∧ n4 ≤ 39 := by rw [e_n4]; exact bM_41 hB_o _
          refine T_qIn ⟨by omega, by omega⟩ ?_
          refine T_qNm (fun n6 e_n6 => ?_)
          have b_n6 : 0 ≤ n6 ∧ n6 ≤ 999 := by rw [e_n6]; exact bM_42 hB_o _
          refine T_qB (t_X12_knew o n4 x1 n6 hB_o (by omega) (by omega) (by omega)) (fun r7 hc_r7 hp16 => ?_)
          replace hp16 : (0 ≤ r7 ∧ r7 ≤ 1) := hp16
          refine T_qEq ⟨by omega, by omega⟩ ⟨by decide, by decide⟩ (fun h17 => ?_) (fun h17 => ?_)
          ·
            unfold b_X12_early_205
            refine T_qNm (fun n2 e_n2 => ?_)
            refine T_qEq ⟨by omega, by omega⟩ ⟨by decide, by decide⟩ (fun h18 => ?_) (fun h18 => ?_)
            ·
              refine T_qEq ⟨by omega, by omega⟩ ⟨by decide, by decide⟩ (fun h19 => ?_) (fun h19 => ?_)
              ·
                unfold b_X12_early_223
                unfold b_X12_early_224
                refine T_qNm (fun n1 e_n1 => ?_)
                unfold b_X12_early_227
                refine T_some ?_
                show ((0 ≤ n2 ∧ n2 ≤ (x5 + 1)) ∧ (0 ≤ n1 ∧ n1 ≤ (x5 + 1)) ∧ (0 ≤ (x5 + 1) ∧ (x5 + 1) ≤ o.1 0 48)) ∧ (o.1 0 48 - (x5 + 1)).toNat < (o.1 0 48 - x5).toNat
                exact ⟨⟨(by omega), (by omega), (by omega)⟩, by omega⟩
              ·
                unfold b_X12_early_224
                refine T_qNm (fun n1 e_n1 => ?_)
                unfold b_X12_early_227
                refine T_some ?_
                show ((0 ≤ n2 ∧ n2 ≤ (x5 + 1)) ∧ (0 ≤ n1 ∧ n1 ≤ (x5 + 1)) ∧ (0 ≤ (x5 + 1) ∧ (x5 + 1) ≤ o.1 0 48)) ∧ (o.1 0 48 - (x5 + 1)).toNat < (o.1 0 48 - x5).toNat
                exact ⟨⟨(by omega), (by omega), (by omega)⟩, by omega⟩
            ·
              unfold b_X12_early_223
              unfold b_X12_early_224
              refine T_qNm (fun n1 e_n1 => ?_)
              unfold b_X12_early_227
              refine T_some ?_
              show ((0 ≤ n2 ∧ n2 ≤ (x5 + 1)) ∧ (0 ≤ n1 ∧ n1 ≤ (x5 + 1)) ∧ (0 ≤ (x5 + 1) ∧ (x5 + 1) ≤ o.1 0 48)) ∧ (o.1 0 48 - (x5 + 1)).toNat < (o.1 0 48 - x5).toNat
              exact ⟨⟨(by omega), (by omega), (by omega)⟩, by omega⟩
          ·
            unfold b_X12_early_205
            refine T_qNm (fun n2 e_n2 => ?_)
            refine T_qEq ⟨by omega, by omega⟩ ⟨by decide, by decide⟩ (fun h20 => ?_) (fun h20 => ?_)
            ·
              refine T_qEq ⟨by omega, by omega⟩ ⟨by decide, by decide⟩ (fun h21 => ?_) (fun h21 => ?_)
              ·
                unfold b_X12_early_223
                unfold b_X12_early_224
                refine T_qNm (fun n1 e_n1 => ?_)
                unfold b_X12_early_227
                refine T_some ?_
                show ((0 ≤ n2 ∧ n2 ≤ (x5 + 1)) ∧ (0 ≤ n1 ∧ n1 ≤ (x5 + 1)) ∧ (0 ≤ (x5 + 1) ∧ (x5 + 1) ≤ o.1 0 48)) ∧ (o.1 0 48 - (x5 + 1)).toNat < (o.1 0 48 - x5).toNat
                exact ⟨⟨(by omega), (by omega), (by omega)⟩, by omega⟩
              ·
                unfold b_X12_early_224
                refine T_qNm (fun n1 e_n1 => ?_)
                unfold b_X12_early_227
                refine T_some ?_
                show ((0 ≤ n2 ∧ n2 ≤ (x5 + 1)) ∧ (0 ≤ n1 ∧ n1 ≤ (x5 + 1)) ∧ (0 ≤ (x5 + 1) ∧ (x5 + 1) ≤ o.1 0 48)) ∧ (o.1 0 48 - (x5 + 1)).toNat < (o.1 0 48 - x5).toNat
                exact ⟨⟨(by omega), (by omega), (by omega)⟩, by omega⟩
            ·
              unfold b_X12_early_223
              unfold b_X12_early_224
              refine T_qNm (fun n1 e_n1 => ?_)
              unfold b_X12_early_227
              refine T_some ?_
              show ((0 ≤ n2 ∧ n2 ≤ (x5 + 1)) ∧ (0 ≤ n1 ∧ n1 ≤ (x5 + 1)) ∧ (0 ≤ (x5 + 1) ∧ (x5 + 1) ≤ o.1 0 48)) ∧ (o.1 0 48 - (x5 + 1)).toNat < (o.1 0 48 - x5).toNat
              exact ⟨⟨(by omega), (by omega), (by omega)⟩, by omega⟩
    ·
      refine T_qIn ⟨by omega, by omega⟩ ?_
      refine T_qNm (fun n32 e_n32 => ?_)
      have b_n32 : 0 ≤ n32 ∧ n32 ≤ 999 := by rw [e_n32]; exact bM_42 hB_o _
      refine T_qIn ⟨by omega, by omega⟩ ?_
      refine T_qNm (fun n34 e_n34 => ?_)
      have b_n34 : -9 ≤ n34 ∧ n34 ≤ 999 := by rw [e_n34]; exact bM_29 hB_o _
      refine T_qLt ⟨by omega, by omega⟩ ⟨by omega, by omega⟩ (fun h22 => ?_) (fun h22 => ?_)
      ·
        unfold b_X12_early_54
        unfold b_X12_early_59
        refine T_qEq ⟨by decide, by decide⟩ ⟨by decide, by decide⟩ (fun h23 => ?_) (fun h23 => ?_)
        ·
          unfold b_X12_early_227
          refine T_some ?_
          show ((0 ≤ x3 ∧ x3 ≤ (x5 + 1)) ∧ (0 ≤ x4 ∧ x4 ≤ (x5 + 1)) ∧ (0 ≤ (x5 + 1) ∧ (x5 + 1) ≤ o.1 0 48)) ∧ (o.1 0 48 - (x5 + 1)).toNat < (o.1 0 48 - x5).toNat
          exact ⟨⟨(by omega), (by omega), (by omega)⟩, by omega⟩
        ·
          refine T_qB (t_X12_cellsOf o x1 hB_o (by omega)) (fun p21 hc_p21 hp24 => ?_)
          refine T_qIn ⟨by omega, by omega⟩ ?_
          refine T_qNm (fun n24 e_n24 => ?_)
          have b_n24 : 0 ≤ n24 ∧ n24 ≤ 31 := by rw [e_n24]; exact bM_40 hB_o _
          refine T_qIn ⟨by omega, by omega⟩ ?_
          refine T_qNm (fun n26 e_n26 => ?_)
          have b_n26 : 0 ≤ n26 ∧ n26 ≤ 63 := by rw [e_n26]; exact bM_13 hB_o _
          refine T_qB (t_X12_has p21 n26 (by omega)) (fun r27 hc_r27 hp25 => ?_)
          replace hp25 : ((r27 = 1 ∧ bt p21 n26.toNat = true) ∨ (r27 = 0 ∧ bt p21 n26.toNat = false)) := hp25
          refine T_qEq ⟨by omega, by omega⟩ ⟨by decide, by decide⟩ (fun h26 => ?_) (fun h26 => ?_)
          ·
            unfold b_X12_early_227
            refine T_some ?_
            show ((0 ≤ x3 ∧ x3 ≤ (x5 + 1)) ∧ (0 ≤ x4 ∧ x4 ≤ (x5 + 1)) ∧ (0 ≤ (x5 + 1) ∧ (x5 + 1) ≤ o.1 0 48)) ∧ (o.1 0 48 - (x5 + 1)).toNat < (o.1 0 48 - x5).toNat
            exact ⟨⟨(by omega), (by omega), (by omega)⟩, by omega⟩
          ·
            unfold e_X12_early_95
            refine T_qB (tl_X12_early_95 o x1 x3 x4 x5 0 0 hB_o (by omega) (by omega) (by omega) (by omega) (by omega) (by omega) (by omega) (by omega) (by omega)) (fun r27 hc_r27 hp28 => ?_)
            obtain ⟨x7_29, q_x7_29⟩ : ∃ q, q = r27 := ⟨_, rfl⟩
            subst q_x7_29
            replace hp28 : (0 ≤ x7_29 ∧ x7_29 ≤ 1) := hp28
            show T (b_X12_early_173 o x1 x3 x4 x5 x7_29) _
            unfold b_X12_early_173
            refine T_qIn ⟨by omega, by omega⟩ ?_
            refine T_qNm (fun n4 e_n4 => ?_)
            have b_n4 : 0 ≤ n4 ∧ n4 ≤ 39 := by rw [e_n4]; exact bM_41 hB_o _
            refine T_qIn ⟨by omega, by omega⟩ ?_
            refine T_qNm (fun n6 e_n6 => ?_)
            have b_n6 : 0 ≤ n6 ∧ n6 ≤ 999 := by rw [e_n6]; exact bM_42 hB_o _
            refine T_qB (t_X12_knew o n4 x1 n6 hB_o (by omega) (by omega) (by omega)) (fun r7 hc_r7 hp30 => ?_)
            replace hp30 : (0 ≤ r7 ∧ r7 ≤ 1) := hp30
            refine T_qEq ⟨by omega, by omega⟩ ⟨by decide, by decide⟩ (fun h31 => ?_) (fun h31 => ?_)
            ·
              unfold b_X12_early_205
              refine T_qNm (fun n2 e_n2 => ?_)
              refine T_qEq ⟨by omega, by omega⟩ ⟨by decide, by decide⟩ (fun h32 => ?_) (fun h32 => ?_)
              ·
                refine T_qEq ⟨by omega, by omega⟩ ⟨by decide, by decide⟩ (fun h33 => ?_) (fun h33 => ?_)
                ·
                  unfold b_X12_early_223
                  unfold b_X12_early_224
                  refine T_qNm (fun n1 e_n1 => ?_)
                  unfold b_X12_early_227
                  refine T_some ?_
                  show ((0 ≤ n2 ∧ n2 ≤ (x5 + 1)) ∧ (0 ≤ n1 ∧ n1 ≤ (x5 + 1)) ∧ (0 ≤ (x5 + 1) ∧ (x5 + 1) ≤ o.1 0 48)) ∧ (o.1 0 48 - (x5 + 1)).toNat < (o.1 0 48 - x5).toNat
                  exact ⟨⟨(by omega), (by omega), (by omega)⟩, by omega⟩
                ·
                  unfold b_X12_early_224
                  refine T_qNm (fun n1 e_n1 => ?_)
                  unfold b_X12_early_227
                  refine T_some ?_
                  show ((0 ≤ n2 ∧ n2 ≤ (x5 + 1)) ∧ (0 ≤ n1 ∧ n1 ≤ (x5 + 1)) ∧ (0 ≤ (x5 + 1) ∧ (x5 + 1) ≤ o.1 0 48)) ∧ (o.1 0 48 - (x5 + 1)).toNat < (o.1 0 48 - x5).toNat
                  exact ⟨⟨(by omega), (by omega), (by omega)⟩, by omega⟩
              ·
                unfold b_X12_early_223
                unfold b_X12_early_224
                refine T_qNm (fun n1 e_n1 => ?_)
                unfold b_X12_early_227
                refine T_some ?_
                show ((0 ≤ n2 ∧ n2 ≤ (x5 + 1)) ∧ (0 ≤ n1 ∧ n1 ≤ (x5 + 1)) ∧ (0 ≤ (x5 + 1) ∧ (x5 + 1) ≤ o.1 0 48)) ∧ (o.1 0 48 - (x5 + 1)).toNat < (o.1 0 48 - x5).toNat
                exact ⟨⟨(by omega), (by omega), (by omega)⟩, by omega⟩
            ·
              unfold b_X12_early_205
              refine T_qNm (fun n2 e_n2 => ?_)
              refine T_qEq ⟨by omega, by omega⟩ ⟨by decide, by decide⟩ (fun h34 => ?_) (fun h34 => ?_)
              ·
                refine T_qEq ⟨by omega, by omega⟩ ⟨by decide, by decide⟩ (fun h35 => ?_) (fun h35 => ?_)
                ·
                  unfold b_X12_early_223
                  unfold b_X12_early_224
                  refine T_qNm (fun n1 e_n1 => ?_)
                  unfold b_X12_early_227
                  refine T_some ?_
                  show ((0 ≤ n2 ∧ n2 ≤ (x5 + 1)) ∧ (0 ≤ n1 ∧ n1 ≤ (x5 + 1)) ∧ (0 ≤ (x5 + 1) ∧ (x5 + 1) ≤ o.1 0 48)) ∧ (o.1 0 48 - (x5 + 1)).toNat < (o.1 0 48 - x5).toNat
                  exact ⟨⟨(by omega), (by omega), (by omega)⟩, by omega⟩
                ·
                  unfold b_X12_early_224
                  refine T_qNm (fun n1 e_n1 => ?_)
                  unfold b_X12_early_227
                  refine T_some ?_
                  show ((0 ≤ n2 ∧ n2 ≤ (x5 + 1)) ∧ (0 ≤ n1 ∧ n1 ≤ (x5 + 1)) ∧ (0 ≤ (x5 + 1) ∧ (x5 + 1) ≤ o.1 0 48)) ∧ (o.1 0 48 - (x5 + 1)).toNat < (o.1 0 48 - x5).toNat
                  exact ⟨⟨(by omega), (by omega), (by omega)⟩, by omega⟩
              ·
                unfold b_X12_early_223
                unfold b_X12_early_224
                refine T_qNm (fun n1 e_n1 => ?_)
                unfold b_X12_early_227
                refine T_some ?_
                show ((0 ≤ n2 ∧ n2 ≤ (x5 + 1)) ∧ (0 ≤ n1 ∧ n1 ≤ (x5 + 1)) ∧ (0 ≤ (x5 + 1) ∧ (x5 + 1) ≤ o.1 0 48)) ∧ (o.1 0 48 - (x5 + 1)).toNat < (o.1 0 48 - x5).toNat
                exact ⟨⟨(by omega), (by omega), (by omega)⟩, by omega⟩
      ·
        unfold b_X12_early_59
        refine T_qEq ⟨by decide, by decide⟩ ⟨by decide, by decide⟩ (fun h36 => ?_) (fun h36 => ?_)
        ·
          unfold b_X12_early_227
          refine T_some ?_
          show ((0 ≤ x3 ∧ x3 ≤ (x5 + 1)) ∧ (0 ≤ x4 ∧ x4 ≤ (x5 + 1)) ∧ (0 ≤ (x5 + 1) ∧ (x5 + 1) ≤ o.1 0 48)) ∧ (o.1 0 48 - (x5 + 1)).toNat < (o.1 0 48 - x5).toNat
          exact ⟨⟨(by omega), (by omega), (by omega)⟩, by omega⟩
        ·
          refine T_qB (t_X12_cellsOf o x1 hB_o (by omega)) (fun p21 hc_p21 hp37 => ?_)
          refine T_qIn ⟨by omega, by omega⟩ ?_
          refine T_qNm (fun n24 e_n24 => ?_)
          have b_n24 : 0 ≤ n24 ∧ n24 ≤ 31 := by rw [e_n24]; exact bM_40 hB_o _
          refine T_qIn ⟨by omega, by omega⟩ ?_
          refine T_qNm (fun n26 e_n26 => ?_)
          have b_n26 : 0 ≤ n26 ∧ n26 ≤ 63 := by rw [e_n26]; exact bM_13 hB_o _
          refine T_qB (t_X12_has p21 n26 (by omega)) (fun r27 hc_r27 hp38 => ?_)
          replace hp38 : ((r27 = 1 ∧ bt p21 n26.toNat = true) ∨ (r27 = 0 ∧ bt p21 n26.toNat = false)) := hp38
          refine T_qEq ⟨by omega, by omega⟩ ⟨by decide, by decide⟩ (fun h39 => ?_) (fun h39 => ?_)
          ·
            unfold b_X12_early_227
            refine T_some ?_
            show ((0 ≤ x3 ∧ x3 ≤ (x5 + 1)) ∧ (0 ≤ x4 ∧ x4 ≤ (x5 + 1)) ∧ (0 ≤ (x5 + 1) ∧ (x5 + 1) ≤ o.1 0 48)) ∧ (o.1 0 48 - (x5 + 1)).toNat < (o.1 0 48 - x5).toNat
            exact ⟨⟨(by omega), (by omega), (by omega)⟩, by omega⟩
          ·
            unfold e_X12_early_95
            refine T_qB (tl_X12_early_95 o x1 x3 x4 x5 0 0 hB_o (by omega) (by omega) (by omega) (by omega) (by omega) (by omega) (by omega) (by omega) (by omega)) (fun r40 hc_r40 hp41 => ?_)
            obtain ⟨x7_42, q_x7_42⟩ : ∃ q, q = r40 := ⟨_, rfl⟩
            subst q_x7_42
            replace hp41 : (0 ≤ x7_42 ∧ x7_42 ≤ 1) := hp41
            show T (b_X12_early_173 o x1 x3 x4 x5 x7_42) _
            unfold b_X12_early_173
            refine T_qIn ⟨by omega, by omega⟩ ?_
            refine T_qNm (fun n4 e_n4 => ?_)
            have b_n4 : 0 ≤ n4 ∧ n4 ≤ 39 := by rw [e_n4]; exact bM_41 hB_o _
            refine T_qIn ⟨by omega, by omega⟩ ?_
            refine T_qNm (fun n6 e_n6 => ?_)
            have b_n6 : 0 ≤ n6 ∧ n6 ≤ 999 := by rw [e_n6]; exact bM_42 hB_o _
            refine T_qB (t_X12_knew o n4 x1 n6 hB_o (by omega) (by omega) (by omega)) (fun r7 hc_r7 hp43 => ?_)
            replace hp43 : (0 ≤ r7 ∧ r7 ≤ 1) := hp43
            refine T_qEq ⟨by omega, by omega⟩ ⟨by decide, by decide⟩ (fun h44 => ?_) (fun h44 => ?_)
            ·
              unfold b_X12_early_205
              refine T_qNm (fun n2 e_n2 => ?_)
              refine T_qEq ⟨by omega, by omega⟩ ⟨by decide, by decide⟩ (fun h45 => ?_) (fun h45 => ?_)
              ·
                refine T_qEq ⟨by omega, by omega⟩ ⟨by decide, by decide⟩ (fun h46 => ?_) (fun h46 => ?_)
                ·
                  unfold b_X12_early_223
                  unfold b_X12_early_224
                  refine T_qNm (fun n1 e_n1 => ?_)
                  unfold b_X12_early_227
                  refine T_some ?_
                  show ((0 ≤ n2 ∧ n2 ≤ (x5 + 1)) ∧ (0 ≤ n1 ∧ n1 ≤ (x5 + 1)) ∧ (0 ≤ (x5 + 1) ∧ (x5 + 1) ≤ o.1 0 48)) ∧ (o.1 0 48 - (x5 + 1)).toNat < (o.1 0 48 - x5).toNat
                  exact ⟨⟨(by omega), (by omega), (by omega)⟩, by omega⟩
                ·
                  unfold b_X12_early_224
                  refine T_qNm (fun n1 e_n1 => ?_)
                  unfold b_X12_early_227
                  refine T_some ?_
                  show ((0 ≤ n2 ∧ n2 ≤ (x5 + 1)) ∧ (0 ≤ n1 ∧ n1 ≤ (x5 + 1)) ∧ (0 ≤ (x5 + 1) ∧ (x5 + 1) ≤ o.1 0 48)) ∧ (o.1 0 48 - (x5 + 1)).toNat < (o.1 0 48 - x5).toNat
                  exact ⟨⟨(by omega), (by omega), (by omega)⟩, by omega⟩
              ·
                unfold b_X12_early_223
                unfold b_X12_early_224
                refine T_qNm (fun n1 e_n1 => ?_)
                unfold b_X12_early_227
                refine T_some ?_
                show ((0 ≤ n2 ∧ n2 ≤ (x5 + 1)) ∧ (0 ≤ n1 ∧ n1 ≤ (x5 + 1)) ∧ (0 ≤ (x5 + 1) ∧ (x5 + 1) ≤ o.1 0 48)) ∧ (o.1 0 48 - (x5 + 1)).toNat < (o.1 0 48 - x5).toNat
                exact ⟨⟨(by omega), (by omega), (by omega)⟩, by omega⟩
            ·
              unfold b_X12_early_205
              refine T_qNm (fun n2 e_n2 => ?_)
              refine T_qEq ⟨by omega, by omega⟩ ⟨by decide, by decide⟩ (fun h47 => ?_) (fun h47 => ?_)
              ·
                refine T_qEq ⟨by omega, by omega⟩ ⟨by decide, by decide⟩ (fun h48 => ?_) (fun h48 => ?_)
                ·
                  unfold b_X12_early_223
                  unfold b_X12_early_224
                  refine T_qNm (fun n1 e_n1 => ?_)
                  unfold b_X12_early_227
                  refine T_some ?_
                  show ((0 ≤ n2 ∧ n2 ≤ (x5 + 1)) ∧ (0 ≤ n1 ∧ n1 ≤ (x5 + 1)) ∧ (0 ≤ (x5 + 1) ∧ (x5 + 1) ≤ o.1 0 48)) ∧ (o.1 0 48 - (x5 + 1)).toNat < (o.1 0 48 - x5).toNat
                  exact ⟨⟨(by omega), (by omega), (by omega)⟩, by omega⟩
                ·
                  unfold b_X12_early_224
                  refine T_qNm (fun n1 e_n1 => ?_)
                  unfold b_X12_early_227
                  refine T_some ?_
                  show ((0 ≤ n2 ∧ n2 ≤ (x5 + 1)) ∧ (0 ≤ n1 ∧ n1 ≤ (x5 + 1)) ∧ (0 ≤ (x5 + 1) ∧ (x5 + 1) ≤ o.1 0 48)) ∧ (o.1 0 48 - (x5 + 1)).toNat < (o.1 0 48 - x5).toNat
                  exact ⟨⟨(by omega), (by omega), (by omega)⟩, by omega⟩
              ·
                unfold b_X12_early_223
                unfold b_X12_early_224
                refine T_qNm (fun n1 e_n1 => ?_)
                unfold b_X12_early_227
                refine T_some ?_
                show ((0 ≤ n2 ∧ n2 ≤ (x5 + 1)) ∧ (0 ≤ n1 ∧ n1 ≤ (x5 + 1)) ∧ (0 ≤ (x5 + 1) ∧ (x5 + 1) ≤ o.1 0 48)) ∧ (o.1 0 48 - (x5 + 1)).toNat < (o.1 0 48 - x5).toNat
                exact ⟨⟨(by omega), (by omega), (by omega)⟩, by omega⟩
  ·
    refine T_some ?_
    show (0 ≤ x3 ∧ x3 ≤ o.1 0 48) ∧ (0 ≤ x4 ∧ x4 ≤ o.1 0 48)
    exact ⟨(by omega), (by omega)⟩
set_option maxRecDepth 20000 in
set_option maxHeartbeats 4000000 in
theorem t_X12_early (o : OO) (x1 : Int) (hB_o : BoxM o) (k0 : inR x1) : T (s_X12_early o x1) (fun v => BoxM v.2 ∧ (Fr [(0, 0), (1, 9999)] o v.2)) := by
  have fr_o : Fr [(0, 0), (1, 9999)] o o := Fr.rf
  have g0_27_o := bM_0_27 hB_o
  have g0_48_o := bM_0_48 hB_o
  have g0_32_o := bM_0_32 hB_o
  unfold s_X12_early
  refine T_qB2 (t_X12_askedLine o x1 hB_o (by omega)) (fun r35 o37 hc_r35 hp49 => ?_)
  replace hp49 : BoxM o37 ∧ (Fr [(0, 0), (1, 9999)] o o37) ∧ (r35 = -1 ∨ r35 = -3 ∨ (r35 = 0 ∧ 0 ≤ x1 ∧ x1 < o.1 0 32)) := hp49
  obtain ⟨hB_o37, fc_o37, hp49⟩ := hp49
  have fr_o37 : Fr [(0, 0), (1, 9999)] o o37 := Fr.tr fr_o fc_o37 rfl
  have g0_27_o37 : o37.1 0 27 = o.1 0 27 := fc_o37.1 0 27 rfl
  have g0_48_o37 : o37.1 0 48 = o.1 0 48 := fc_o37.1 0 48 rfl
  have g0_32_o37 : o37.1 0 32 = o.1 0 32 := fc_o37.1 0 32 rfl
  refine T_qLt ⟨by omega, by omega⟩ ⟨by decide, by decide⟩ (fun h50 => ?_) (fun h50 => ?_)
  ·
    refine T_some ?_
    show BoxM o37 ∧ (Fr [(0, 0), (1, 9999)] o o37)
    exact ⟨hB_o37, fr_o37⟩
  ·
    unfold e_X12_early_20
    refine T_qB (tl_X12_early_20 o37 x1 0 0 0 hB_o37 (by omega) (by omega) (by omega) (by omega) (by omega)) (fun r51 hc_r51 hp52 => ?_)
    obtain ⟨x3_53, x4_54⟩ := r51
    replace hp52 : (0 ≤ x3_53 ∧ x3_53 ≤ o37.1 0 48) ∧ (0 ≤ x4_54 ∧ x4_54 ≤ o37.1 0 48) := hp52
    have hps_hp52 := hp52
    obtain ⟨hp52_0, hp52_1⟩ := hps_hp52
    replace hp52 := hid hp52
    show T (b_X12_early_233 o37 x3_53 x4_54) _
    unfold b_X12_early_233
    refine T_some ?_
    show BoxM o37 ∧ (Fr [(0, 0), (1, 9999)] o o37)
    exact ⟨hB_o37, fr_o37⟩
set_option maxRecDepth 20000 in
set_option maxHeartbeats 4000000 in
theorem t_X12_beside (x0 : Int) (x1 : Int) (k0 : 0 ≤ x0 ∧ x0 ≤ 63) (k1 : 0 ≤ x1 ∧ x1 ≤ 3) : T (s_X12_beside x0 x1) (fun v => (v = -9 ∨ (0 ≤ v ∧ v ≤ 63 ∧ (x1 = 0 ∧ v = x0 - 8 ∨ x1 = 1 ∧ v = x0 - 1 ∨ x1 = 2 ∧ v = x0 + 1 ∨ x1 = 3 ∧ v = x0 + 8))) ∧ (v = bsd x0 x1)) := by
  unfold s_X12_beside
  refine T_qEq ⟨by omega, by omega⟩ ⟨by decide, by decide⟩ (fun h1 => ?_) (fun h1 => ?_)
  ·
    refine T_qDv ⟨⟨by omega, by omega⟩, ⟨by decide, by decide⟩, by decide⟩ ?_
    have jd2 : jq x0 8 = x0 / 8 := jq_nn (by omega)
    refine T_qLt ⟨by decide, by decide⟩ ⟨by omega, by omega⟩ (fun h3 => ?_) (fun h3 => ?_)
    ·
      unfold b_X12_beside_44
      refine T_some ?_
      show ((x0 - 8) = -9 ∨ (0 ≤ (x0 - 8) ∧ (x0 - 8) ≤ 63 ∧ (x1 = 0 ∧ (x0 - 8) = x0 - 8 ∨ x1 = 1 ∧ (x0 - 8) = x0 - 1 ∨ x1 = 2 ∧ (x0 - 8) = x0 + 1 ∨ x1 = 3 ∧ (x0 - 8) = x0 + 8))) ∧ ((x0 - 8) = bsd x0 x1)
      exact ⟨(by omega), (by unfold bsd; split <;> first | omega | (split <;> first | omega | (split <;> first | omega | (split <;> omega))))⟩
    ·
      unfold b_X12_beside_44
      refine T_some ?_
      show ((-9) = -9 ∨ (0 ≤ (-9) ∧ (-9) ≤ 63 ∧ (x1 = 0 ∧ (-9) = x0 - 8 ∨ x1 = 1 ∧ (-9) = x0 - 1 ∨ x1 = 2 ∧ (-9) = x0 + 1 ∨ x1 = 3 ∧ (-9) = x0 + 8))) ∧ ((-9) = bsd x0 x1)
      exact ⟨(by omega), (by unfold bsd; split <;> first | omega | (split <;> first | omega | (split <;> first | omega | (split <;> omega))))⟩
  ·
    refine T_qEq ⟨by omega, by omega⟩ ⟨by decide, by decide⟩ (fun h4 => ?_) (fun h4 => ?_)
    ·
      refine T_qDv ⟨⟨by omega, by omega⟩, ⟨by decide, by decide⟩, by decide⟩ ?_
      have jd5 : jq x0 8 = x0 / 8 := jq_nn (by omega)
      refine T_qLt ⟨by decide, by decide⟩ ⟨by omega, by omega⟩ (fun h6 => ?_) (fun h6 => ?_)
      ·
        unfold b_X12_beside_60
        refine T_some ?_
        show ((x0 - 1) = -9 ∨ (0 ≤ (x0 - 1) ∧ (x0 - 1) ≤ 63 ∧ (x1 = 0 ∧ (x0 - 1) = x0 - 8 ∨ x1 = 1 ∧ (x0 - 1) = x0 - 1 ∨ x1 = 2 ∧ (x0 - 1) = x0 + 1 ∨ x1 = 3 ∧ (x0 - 1) = x0 + 8))) ∧ ((x0 - 1) = bsd x0 x1)
        exact ⟨(by omega), (by unfold bsd; split <;> first | omega | (split <;> first | omega | (split <;> first | omega | (split <;> omega))))⟩
      ·
        unfold b_X12_beside_60
        refine T_some ?_
        show ((-9) = -9 ∨ (0 ≤ (-9) ∧ (-9) ≤ 63 ∧ (x1 = 0 ∧ (-9) = x0 - 8 ∨ x1 = 1 ∧ (-9) = x0 - 1 ∨ x1 = 2 ∧ (-9) = x0 + 1 ∨ x1 = 3 ∧ (-9) = x0 + 8))) ∧ ((-9) = bsd x0 x1)
        exact ⟨(by omega), (by unfold bsd; split <;> first | omega | (split <;> first | omega | (split <;> first | omega | (split <;> omega))))⟩
    ·
      refine T_qEq ⟨by omega, by omega⟩ ⟨by decide, by decide⟩ (fun h7 => ?_) (fun h7 => ?_)
      ·
        refine T_qDv ⟨⟨by omega, by omega⟩, ⟨by decide, by decide⟩, by decide⟩ ?_
        have jd8 : jq x0 8 = x0 / 8 := jq_nn (by omega)
        refine T_qLt ⟨by omega, by omega⟩ ⟨by decide, by decide⟩ (fun h9 => ?_) (fun h9 => ?_)
        ·
          unfold b_X12_beside_78
          refine T_some ?_
          show ((x0 + 1) = -9 ∨ (0 ≤ (x0 + 1) ∧ (x0 + 1) ≤ 63 ∧ (x1 = 0 ∧ (x0 + 1) = x0 - 8 ∨ x1 = 1 ∧ (x0 + 1) = x0 - 1 ∨ x1 = 2 ∧ (x0 + 1) = x0 + 1 ∨ x1 = 3 ∧ (x0 + 1) = x0 + 8))) ∧ ((x0 + 1) = bsd x0 x1)
          exact ⟨(by omega), (by unfold bsd; split <;> first | omega | (split <;> first | omega | (split <;> first | omega | (split <;> omega))))⟩
        ·
          unfold b_X12_beside_78
          refine T_some ?_
          show ((-9) = -9 ∨ (0 ≤ (-9) ∧ (-9) ≤ 63 ∧ (x1 = 0 ∧ (-9) = x0 - 8 ∨ x1 = 1 ∧ (-9) = x0 - 1 ∨ x1 = 2 ∧ (-9) = x0 + 1 ∨ x1 = 3 ∧ (-9) = x0 + 8))) ∧ ((-9) = bsd x0 x1)
          exact ⟨(by omega), (by unfold bsd; split <;> first | omega | (split <;> first | omega | (split <;> first | omega | (split <;> omega))))⟩
      ·
        refine T_qDv ⟨⟨by omega, by omega⟩, ⟨by decide, by decide⟩, by decide⟩ ?_
        have jd10 : jq x0 8 = x0 / 8 := jq_nn (by omega)
        refine T_qLt ⟨by omega, by omega⟩ ⟨by decide, by decide⟩ (fun h11 => ?_) (fun h11 => ?_)
        ·
          unfold b_X12_beside_97
          refine T_some ?_
          show ((x0 + 8) = -9 ∨ (0 ≤ (x0 + 8) ∧ (x0 + 8) ≤ 63 ∧ (x1 = 0 ∧ (x0 + 8) = x0 - 8 ∨ x1 = 1 ∧ (x0 + 8) = x0 - 1 ∨ x1 = 2 ∧ (x0 + 8) = x0 + 1 ∨ x1 = 3 ∧ (x0 + 8) = x0 + 8))) ∧ ((x0 + 8) = bsd x0 x1)
          exact ⟨(by omega), (by unfold bsd; split <;> first | omega | (split <;> first | omega | (split <;> first | omega | (split <;> omega))))⟩
        ·
          unfold b_X12_beside_97
          refine T_some ?_
          show ((-9) = -9 ∨ (0 ≤ (-9) ∧ (-9) ≤ 63 ∧ (x1 = 0 ∧ (-9) = x0 - 8 ∨ x1 = 1 ∧ (-9) = x0 - 1 ∨ x1 = 2 ∧ (-9) = x0 + 1 ∨ x1 = 3 ∧ (-9) = x0 + 8))) ∧ ((-9) = bsd x0 x1)
          exact ⟨(by omega), (by unfold bsd; split <;> first | omega | (split <;> first | omega | (split <;> first | omega | (split <;> omega))))⟩
set_option maxRecDepth 20000 in
set_option maxHeartbeats 4000000 in
theorem tl_X12_setSteps_3 (x1 : Int) (z2 : Int64) (i_o : OO) (i_x4 : Int) (hB_i_o : BoxM i_o) (k0 : 0 ≤ x1 ∧ x1 ≤ 63) (v0 : 0 ≤ i_x4 ∧ i_x4 ≤ 64) : T (loopW (fun s => l_X12_setSteps_3 x1 z2 s.1 s.2) (i_o, i_x4)) (fun r => BoxM r ∧ (Fr [(52, 9999)] i_o r)) := by
  have fr_i_o : Fr [(52, 9999)] i_o i_o := Fr.rf
  refine T_loop (fun s => BoxM s.1 ∧ (Fr [(52, 9999)] i_o s.1) ∧ (0 ≤ s.2 ∧ s.2 ≤ 64)) (fun s => (64 - s.2).toNat) (by exact ⟨hB_i_o, fr_i_o, v0⟩) (fun s hs => ?_)
  obtain ⟨o, x4⟩ := s
  replace hs : BoxM o ∧ (Fr [(52, 9999)] i_o o) ∧ (0 ≤ x4 ∧ x4 ≤ 64) := hs
  obtain ⟨hB_o, fr_o, w0⟩ := hs
  show T (l_X12_setSteps_3 x1 z2 o x4) _
  unfold l_X12_setSteps_3
  refine T_qLt ⟨by omega, by omega⟩ ⟨by decide, by decide⟩ (fun h1 => ?_) (fun h1 => ?_)
  ·
    refine T_qEq ⟨by omega, by omega⟩ ⟨by omega, by omega⟩ (fun h2 => ?_) (fun h2 => ?_)
    ·
      unfold b_X12_setSteps_29
      refine T_qIn ⟨by omega, by omega⟩ ?_
      refine T_qNm (fun o18 e_o18 => ?_)
      have hB_o18 : BoxM o18 := by rw [e_o18]; exact Box.s1 hB_o (show 0 ≤ 0 ∧ 0 ≤ 100000000 from ⟨by omega, by omega⟩)
      have fr_o18 : Fr [(52, 9999)] i_o o18 := by rw [e_o18]; exact Fr.s1 fr_o rfl
      have ss_o18 : SS o18 = SS o - o.1 52 x4.toNat + 0 := by rw [e_o18]; exact SS_upd (by omega)
      refine T_some ?_
      show (BoxM o18 ∧ (Fr [(52, 9999)] i_o o18) ∧ (0 ≤ (x4 + 1) ∧ (x4 + 1) ≤ 64)) ∧ (64 - (x4 + 1)).toNat < (64 - x4).toNat
      exact ⟨⟨hB_o18, fr_o18, (by omega)⟩, by omega⟩
    ·
      unfold b_X12_setSteps_29
      refine T_qIn ⟨by omega, by omega⟩ ?_
      refine T_qNm (fun o18 e_o18 => ?_)
      have hB_o18 : BoxM o18 := by rw [e_o18]; exact Box.s1 hB_o (show 0 ≤ 100000000 ∧ 100000000 ≤ 100000000 from ⟨by omega, by omega⟩)
      have fr_o18 : Fr [(52, 9999)] i_o o18 := by rw [e_o18]; exact Fr.s1 fr_o rfl
      have ss_o18 : SS o18 = SS o - o.1 52 x4.toNat + 100000000 := by rw [e_o18]; exact SS_upd (by omega)
      refine T_some ?_
      show (BoxM o18 ∧ (Fr [(52, 9999)] i_o o18) ∧ (0 ≤ (x4 + 1) ∧ (x4 + 1) ≤ 64)) ∧ (64 - (x4 + 1)).toNat < (64 - x4).toNat
      exact ⟨⟨hB_o18, fr_o18, (by omega)⟩, by omega⟩
  ·
    refine T_some ?_
    show BoxM o ∧ (Fr [(52, 9999)] i_o o)
    exact ⟨hB_o, fr_o⟩
set_option maxRecDepth 20000 in
set_option maxHeartbeats 4000000 in
theorem tl_X12_setSteps_60 (z2 : Int64) (x5 : Int) (i_o : OO) (i_x4 : Int) (i_x6 : Int) (hB_i_o : BoxM i_o) (k0 : 0 ≤ x5 ∧ x5 ≤ 64) (k1 : x5 < 64) (v0 : 0 ≤ i_x4 ∧ i_x4 ≤ 1) (v1 : 0 ≤ i_x6 ∧ i_x6 ≤ 4) (v2 : (i_x4 = i_x4 ∧ SS i_o = SS i_o) ∨ (i_x4 = 1 ∧ SS i_o < SS i_o)) : T (loopW (fun s => l_X12_setSteps_60 z2 x5 s.1 s.2.1 s.2.2) (i_o, i_x4, i_x6)) (fun r => BoxM r.1 ∧ (Fr [(52, 9999)] i_o r.1) ∧ (0 ≤ r.2 ∧ r.2 ≤ 1) ∧ ((r.2 = i_x4 ∧ SS r.1 = SS i_o) ∨ (r.2 = 1 ∧ SS r.1 < SS i_o))) := by
  have fr_i_o : Fr [(52, 9999)] i_o i_o := Fr.rf
  refine T_loop (fun s => BoxM s.1 ∧ (Fr [(52, 9999)] i_o s.1) ∧ (0 ≤ s.2.1 ∧ s.2.1 ≤ 1) ∧ (0 ≤ s.2.2 ∧ s.2.2 ≤ 4) ∧ ((s.2.1 = i_x4 ∧ SS s.1 = SS i_o) ∨ (s.2.1 = 1 ∧ SS s.1 < SS i_o))) (fun s => (4 - s.2.2).toNat) (by exact ⟨hB_i_o, fr_i_o, v0, v1, v2⟩) (fun s hs => ?_)
  obtain ⟨o, x4, x6⟩ := s
  replace hs : BoxM o ∧ (Fr [(52, 9999)] i_o o) ∧ (0 ≤ x4 ∧ x4 ≤ 1) ∧ (0 ≤ x6 ∧ x6 ≤ 4) ∧ ((x4 = i_x4 ∧ SS o = SS i_o) ∨ (x4 = 1 ∧ SS o < SS i_o)) := hs
  obtain ⟨hB_o, fr_o, w0, w1, w2⟩ := hs
  show T (l_X12_setSteps_60 z2 x5 o x4 x6) _
  unfold l_X12_setSteps_60
  refine T_qLt ⟨by omega, by omega⟩ ⟨by decide, by decide⟩ (fun h3 => ?_) (fun h3 => ?_)
  ·
    refine T_qIn ⟨by omega, by omega⟩ ?_
    refine T_qNm (fun n2 e_n2 => ?_)
    have b_n2 : 0 ≤ n2 ∧ n2 ≤ 100000000 := by rw [e_n2]; exact bM_52 hB_o _
    refine T_qLt ⟨by omega, by omega⟩ ⟨by decide, by decide⟩ (fun h4 => ?_) (fun h4 => ?_)
    ·
      refine T_qB (t_X12_beside x5 x6 (by omega) (by omega)) (fun r3 hc_r3 hp5 => ?_)
      replace hp5 : (r3 = -9 ∨ (0 ≤ r3 ∧ r3 ≤ 63 ∧ (x6 = 0 ∧ r3 = x5 - 8 ∨ x6 = 1 ∧ r3 = x5 - 1 ∨ x6 = 2 ∧ r3 = x5 + 1 ∨ x6 = 3 ∧ r3 = x5 + 8))) ∧ (r3 = bsd x5 x6) := hp5
      have hps_hp5 := hp5
      obtain ⟨hp5_0, hp5_1⟩ := hps_hp5
      replace hp5 := hid hp5
      refine T_qLt ⟨by omega, by omega⟩ ⟨by decide, by decide⟩ (fun h6 => ?_) (fun h6 => ?_)
      ·
        unfold b_X12_setSteps_151
        refine T_some ?_
        show (BoxM o ∧ (Fr [(52, 9999)] i_o o) ∧ (0 ≤ x4 ∧ x4 ≤ 1) ∧ (0 ≤ (x6 + 1) ∧ (x6 + 1) ≤ 4) ∧ ((x4 = i_x4 ∧ SS o = SS i_o) ∨ (x4 = 1 ∧ SS o < SS i_o))) ∧ (4 - (x6 + 1)).toNat < (4 - x6).toNat
        exact ⟨⟨hB_o, fr_o, (by omega), (by omega), (by omega)⟩, by omega⟩
      ·
        refine T_qIn ⟨by omega, by omega⟩ ?_
        refine T_qNm (fun n6 e_n6 => ?_)
        have b_n6 : 0 ≤ n6 ∧ n6 ≤ 4 := by rw [e_n6]; exact bM_11 hB_o _
        refine T_qEq ⟨by omega, by omega⟩ ⟨by decide, by decide⟩ (fun h7 => ?_) (fun h7 => ?_)
        ·
          unfold b_X12_setSteps_151
          refine T_some ?_
          show (BoxM o ∧ (Fr [(52, 9999)] i_o o) ∧ (0 ≤ x4 ∧ x4 ≤ 1) ∧ (0 ≤ (x6 + 1) ∧ (x6 + 1) ≤ 4) ∧ ((x4 = i_x4 ∧ SS o = SS i_o) ∨ (x4 = 1 ∧ SS o < SS i_o))) ∧ (4 - (x6 + 1)).toNat < (4 - x6).toNat
          exact ⟨⟨hB_o, fr_o, (by omega), (by omega), (by omega)⟩, by omega⟩
        ·
          refine T_qB (t_X12_has z2 r3 (by omega)) (fun r7 hc_r7 hp8 => ?_)
          replace hp8 : ((r7 = 1 ∧ bt z2 r3.toNat = true) ∨ (r7 = 0 ∧ bt z2 r3.toNat = false)) := hp8
          refine T_qEq ⟨by omega, by omega⟩ ⟨by decide, by decide⟩ (fun h9 => ?_) (fun h9 => ?_)
          ·
            refine T_qIn ⟨by omega, by omega⟩ ?_
            refine T_qNm (fun n10 e_n10 => ?_)
            have b_n10 : 0 ≤ n10 ∧ n10 ≤ 100000000 := by rw [e_n10]; exact bM_52 hB_o _
            refine T_qIn ⟨by omega, by omega⟩ ?_
            refine T_qNm (fun n12 e_n12 => ?_)
            have b_n12 : 0 ≤ n12 ∧ n12 ≤ 100000000 := by rw [e_n12]; exact bM_52 hB_o _
            refine T_qLt ⟨by omega, by omega⟩ ⟨by omega, by omega⟩ (fun h10 => ?_) (fun h10 => ?_)
            ·
              refine T_qIn ⟨by omega, by omega⟩ ?_
              refine T_qNm (fun n14 e_n14 => ?_)
              have b_n14 : 0 ≤ n14 ∧ n14 ≤ 100000000 := by rw [e_n14]; exact bM_52 hB_o _
              refine T_qIn ⟨by omega, by omega⟩ ?_
              refine T_qNm (fun o16 e_o16 => ?_)
              have hB_o16 : BoxM o16 := by rw [e_o16]; exact Box.s1 hB_o (show 0 ≤ (n14 + 1) ∧ (n14 + 1) ≤ 100000000 from ⟨by omega, by omega⟩)
              have fr_o16 : Fr [(52, 9999)] i_o o16 := by rw [e_o16]; exact Fr.s1 fr_o rfl
              have ss_o16 : SS o16 = SS o - o.1 52 r3.toNat + (n14 + 1) := by rw [e_o16]; exact SS_upd (by omega)
              unfold b_X12_setSteps_151
              refine T_some ?_
              show (BoxM o16 ∧ (Fr [(52, 9999)] i_o o16) ∧ (0 ≤ 1 ∧ 1 ≤ 1) ∧ (0 ≤ (x6 + 1) ∧ (x6 + 1) ≤ 4) ∧ ((1 = i_x4 ∧ SS o16 = SS i_o) ∨ (1 = 1 ∧ SS o16 < SS i_o))) ∧ (4 - (x6 + 1)).toNat < (4 - x6).toNat
              exact ⟨⟨hB_o16, fr_o16, (by omega), (by omega), (by omega)⟩, by omega⟩
            ·
              unfold b_X12_setSteps_151
              refine T_some ?_
              show (BoxM o ∧ (Fr [(52, 9999)] i_o o) ∧ (0 ≤ x4 ∧ x4 ≤ 1) ∧ (0 ≤ (x6 + 1) ∧ (x6 + 1) ≤ 4) ∧ ((x4 = i_x4 ∧ SS o = SS i_o) ∨ (x4 = 1 ∧ SS o < SS i_o))) ∧ (4 - (x6 + 1)).toNat < (4 - x6).toNat
              exact ⟨⟨hB_o, fr_o, (by omega), (by omega), (by omega)⟩, by omega⟩
          ·
            unfold b_X12_setSteps_151
            refine T_some ?_
            show (BoxM o ∧ (Fr [(52, 9999)] i_o o) ∧ (0 ≤ x4 ∧ x4 ≤ 1) ∧ (0 ≤ (x6 + 1) ∧ (x6 + 1) ≤ 4) ∧ ((x4 = i_x4 ∧ SS o = SS i_o) ∨ (x4 = 1 ∧ SS o < SS i_o))) ∧ (4 - (x6 + 1)).toNat < (4 - x6).toNat
            exact ⟨⟨hB_o, fr_o, (by omega), (by omega), (by omega)⟩, by omega⟩
    ·
      refine T_some ?_
      show BoxM o ∧ (Fr [(52, 9999)] i_o o) ∧ (0 ≤ x4 ∧ x4 ≤ 1) ∧ ((x4 = i_x4 ∧ SS o = SS i_o) ∨ (x4 = 1 ∧ SS o < SS i_o))
      exact ⟨hB_o, fr_o, (by omega), (by omega)⟩
  ·
    refine T_some ?_
    show BoxM o ∧ (Fr [(52, 9999)] i_o o) ∧ (0 ≤ x4 ∧ x4 ≤ 1) ∧ ((x4 = i_x4 ∧ SS o = SS i_o) ∨ (x4 = 1 ∧ SS o < SS i_o))
    exact ⟨hB_o, fr_o, (by omega), (by omega)⟩
set_option maxRecDepth 20000 in
set_option maxHeartbeats 4000000 in
theorem tl_X12_setSteps_50 (z2 : Int64) (i_o : OO) (i_x4 : Int) (i_x5 : Int) (hB_i_o : BoxM i_o) (v0 : 0 ≤ i_x4 ∧ i_x4 ≤ 1) (v1 : 0 ≤ i_x5 ∧ i_x5 ≤ 64) (v2 : (i_x4 = i_x4 ∧ SS i_o = SS i_o) ∨ (i_x4 = 1 ∧ SS i_o < SS i_o)) : T (loopW (fun s => l_X12_setSteps_50 z2 s.1 s.2.1 s.2.2) (i_o, i_x4, i_x5)) (fun r => BoxM r.1 ∧ (Fr [(52, 9999)] i_o r.1) ∧ (0 ≤ r.2 ∧ r.2 ≤ 1) ∧ ((r.2 = i_x4 ∧ SS r.1 = SS i_o) ∨ (r.2 = 1 ∧ SS r.1 < SS i_o))) := by
  have fr_i_o : Fr [(52, 9999)] i_o i_o := Fr.rf
  refine T_loop (fun s => BoxM s.1 ∧ (Fr [(52, 9999)] i_o s.1) ∧ (0 ≤ s.2.1 ∧ s.2.1 ≤ 1) ∧ (0 ≤ s.2.2 ∧ s.2.2 ≤ 64) ∧ ((s.2.1 = i_x4 ∧ SS s.1 = SS i_o) ∨ (s.2.1 = 1 ∧ SS s.1 < SS i_o))) (fun s => (64 - s.2.2).toNat) (by exact ⟨hB_i_o, fr_i_o, v0, v1, v2⟩) (fun s hs => ?_)
  obtain ⟨o, x4, x5⟩ := s
  replace hs : BoxM o ∧ (Fr [(52, 9999)] i_o o) ∧ (0 ≤ x4 ∧ x4 ≤ 1) ∧ (0 ≤ x5 ∧ x5 ≤ 64) ∧ ((x4 = i_x4 ∧ SS o = SS i_o) ∨ (x4 = 1 ∧ SS o < SS i_o)) := hs
  obtain ⟨hB_o, fr_o, w0, w1, w2⟩ := hs
  show T (l_X12_setSteps_50 z2 o x4 x5) _
  unfold l_X12_setSteps_50
  refine T_qLt ⟨by omega, by omega⟩ ⟨by decide, by decide⟩ (fun h11 => ?_) (fun h11 => ?_)
  ·
    unfold e_X12_setSteps_60
    refine T_qB (tl_X12_setSteps_60 z2 x5 o x4 0 hB_o (by omega) (by omega) (by omega) (by omega) (by omega)) (fun r12 hc_r12 hp13 => ?_)
    obtain ⟨o_14, x4_15⟩ := r12
    replace hp13 : BoxM o_14 ∧ (Fr [(52, 9999)] o o_14) ∧ (0 ≤ x4_15 ∧ x4_15 ≤ 1) ∧ ((x4_15 = x4 ∧ SS o_14 = SS o) ∨ (x4_15 = 1 ∧ SS o_14 < SS o)) := hp13
    have hps_hp13 := hp13
    obtain ⟨hp13_0, hp13_1, hp13_2, hp13_3⟩ := hps_hp13
    obtain ⟨hB_o_14, fc_o_14, hp13⟩ := hp13
    replace hp13 := hid hp13
    have fr_o_14 : Fr [(52, 9999)] i_o o_14 := Fr.tr fr_o fc_o_14 rfl
    show T (b_X12_setSteps_157 o_14 z2 x4_15 x5) _
    unfold b_X12_setSteps_157
    refine T_some ?_
    show (BoxM o_14 ∧ (Fr [(52, 9999)] i_o o_14) ∧ (0 ≤ x4_15 ∧ x4_15 ≤ 1) ∧ (0 ≤ (x5 + 1) ∧ (x5 + 1) ≤ 64) ∧ ((x4_15 = i_x4 ∧ SS o_14 = SS i_o) ∨ (x4_15 = 1 ∧ SS o_14 < SS i_o))) ∧ (64 - (x5 + 1)).toNat < (64 - x5).toNat
    exact ⟨⟨hB_o_14, fr_o_14, (by omega), (by omega), (by omega)⟩, by omega⟩
  ·
    refine T_some ?_
    show BoxM o ∧ (Fr [(52, 9999)] i_o o) ∧ (0 ≤ x4 ∧ x4 ≤ 1) ∧ ((x4 = i_x4 ∧ SS o = SS i_o) ∨ (x4 = 1 ∧ SS o < SS i_o))
    exact ⟨hB_o, fr_o, (by omega), (by omega)⟩
set_option maxRecDepth 20000 in
set_option maxHeartbeats 4000000 in
theorem tl_X12_setSteps_39 (z2 : Int64) (i_o : OO) (i_x4 : Int) (hB_i_o : BoxM i_o) (v0 : 0 ≤ i_x4 ∧ i_x4 ≤ 1) : T (loopW (fun s => l_X12_setSteps_39 z2 s.1 s.2) (i_o, i_x4)) (fun r => BoxM r ∧ (Fr [(52, 9999)] i_o r)) := by
  have fr_i_o : Fr [(52, 9999)] i_o i_o := Fr.rf
  refine T_loop (fun s => BoxM s.1 ∧ (Fr [(52, 9999)] i_o s.1) ∧ (0 ≤ s.2 ∧ s.2 ≤ 1)) (fun s => (SS s.1).toNat + s.2.toNat) (by exact ⟨hB_i_o, fr_i_o, v0⟩) (fun s hs => ?_)
  obtain ⟨o, x4⟩ := s
  replace hs : BoxM o ∧ (Fr [(52, 9999)] i_o o) ∧ (0 ≤ x4 ∧ x4 ≤ 1) := hs
  obtain ⟨hB_o, fr_o, w0⟩ := hs
  have ssn := SS_nn hB_o
  show T (l_X12_setSteps_39 z2 o x4) _
  unfold l_X12_setSteps_39
  refine T_qEq ⟨by omega, by omega⟩ ⟨by decide, by decide⟩ (fun h16 => ?_) (fun h16 => ?_)
  ·
    refine T_some ?_
    show BoxM o ∧ (Fr [(52, 9999)] i_o o)
    exact ⟨hB_o, fr_o⟩
  ·
    unfold e_X12_setSteps_50
    refine T_qB (tl_X12_setSteps_50 z2 o 0 0 hB_o (by omega) (by omega) (by omega)) (fun r17 hc_r17 hp18 => ?_)
    obtain ⟨o_19, x4_20⟩ := r17
    replace hp18 : BoxM o_19 ∧ (Fr [(52, 9999)] o o_19) ∧ (0 ≤ x4_20 ∧ x4_20 ≤ 1) ∧ ((x4_20 = 0 ∧ SS o_19 = SS o) ∨ (x4_20 = 1 ∧ SS o_19 < SS o)) := hp18
    have hps_hp18 := hp18
    obtain ⟨hp18_0, hp18_1, hp18_2, hp18_3⟩ := hps_hp18
    obtain ⟨hB_o_19, fc_o_19, hp18⟩ := hp18
    replace hp18 := hid hp18
    have fr_o_19 : Fr [(52, 9999)] i_o o_19 := Fr.tr fr_o fc_o_19 rfl
    show T (b_X12_setSteps_163 o_19 z2 x4_20) _
    have ssm := SS_nn hB_o_19
    unfold b_X12_setSteps_163
    refine T_some ?_
    show (BoxM o_19 ∧ (Fr [(52, 9999)] i_o o_19) ∧ (0 ≤ x4_20 ∧ x4_20 ≤ 1)) ∧ (SS o_19).toNat + x4_20.toNat < (SS o).toNat + x4.toNat
    exact ⟨⟨hB_o_19, fr_o_19, (by omega)⟩, by omega⟩
set_option maxRecDepth 20000 in
set_option maxHeartbeats 4000000 in
theorem t_X12_setSteps (o : OO) (x1 : Int) (z2 : Int64) (hB_o : BoxM o) (k0 : 0 ≤ x1 ∧ x1 ≤ 63) : T (s_X12_setSteps o x1 z2) (fun v => BoxM v ∧ (Fr [(52, 9999)] o v)) := by
  have fr_o : Fr [(52, 9999)] o o := Fr.rf
  unfold s_X12_setSteps
  unfold e_X12_setSteps_3
  refine T_qB (tl_X12_setSteps_3 x1 z2 o 0 hB_o (by omega) (by omega)) (fun r21 hc_r21 hp22 => ?_)
  obtain ⟨o_23, q_o_23⟩ : ∃ q, q = r21 := ⟨_, rfl⟩
  subst q_o_23
  replace hp22 : BoxM o_23 ∧ (Fr [(52, 9999)] o o_23) := hp22
  have hps_hp22 := hp22
  obtain ⟨hp22_0, hp22_1⟩ := hps_hp22
  obtain ⟨hB_o_23, fc_o_23⟩ := hp22
  have fr_o_23 : Fr [(52, 9999)] o o_23 := Fr.tr fr_o fc_o_23 rfl
  show T (b_X12_setSteps_36 o_23 z2) _
  unfold b_X12_setSteps_36
  unfold e_X12_setSteps_39
  refine T_qB (tl_X12_setSteps_39 z2 o_23 1 hB_o_23 (by omega)) (fun r24 hc_r24 hp25 => ?_)
  obtain ⟨o_26, q_o_26⟩ : ∃ q, q = r24 := ⟨_, rfl⟩
  subst q_o_26
  replace hp25 : BoxM o_26 ∧ (Fr [(52, 9999)] o_23 o_26) := hp25
  have hps_hp25 := hp25
  obtain ⟨hp25_0, hp25_1⟩ := hps_hp25
  obtain ⟨hB_o_26, fc_o_26⟩ := hp25
  have fr_o_26 : Fr [(52, 9999)] o o_26 := Fr.tr fr_o_23 fc_o_26 rfl
  show T (b_X12_setSteps_166 o_26) _
  unfold b_X12_setSteps_166
  refine T_some ?_
  show BoxM o_26 ∧ (Fr [(52, 9999)] o o_26)
  exact ⟨hB_o_26, fr_o_26⟩
set_option maxRecDepth 20000 in
set_option maxHeartbeats 4000000 in
theorem tl_X12_fall_134 (x2 : Int) (z3 : Int64) (z5 : Int64) (z7 : Int64) (x9 : Int) (x10 : Int) (x11 : Int) (i_o : OO) (i_x12 : Int) (hB_i_o : BoxM i_o) (k0 : inR x2) (k1 : 0 ≤ x11 ∧ x11 ≤ x2) (k2 : 0 ≤ x2 ∧ x2 ≤ 20) (k3 : 0 ≤ x9 ∧ x9 ≤ 9999) (k4 : x11 < x2) (v0 : 0 ≤ i_x12 ∧ i_x12 ≤ i_o.1 0 17) (v1 : WK i_o i_x12 0) : T (loopW (fun s => l_X12_fall_134 x2 z3 z5 z7 x9 x10 x11 s.1 s.2) (i_o, i_x12)) (fun r => BoxM r ∧ (Fr [(53, 9999)] i_o r) ∧ (WK r (r.1 0 17) 0)) := by
  have fr_i_o : Fr [(53, 9999)] i_o i_o := Fr.rf
  refine T_loop (fun s => BoxM s.1 ∧ (Fr [(53, 9999)] i_o s.1) ∧ (0 ≤ s.2 ∧ s.2 ≤ s.1.1 0 17) ∧ (WK s.1 s.2 0)) (fun s => (s.1.1 0 17 - s.2).toNat) (by exact ⟨hB_i_o, fr_i_o, v0, v1⟩) (fun s hs => ?_)
  obtain ⟨o, x12⟩ := s
  replace hs : BoxM o ∧ (Fr [(53, 9999)] i_o o) ∧ (0 ≤ x12 ∧ x12 ≤ o.1 0 17) ∧ (WK o x12 0) := hs
  obtain ⟨hB_o, fr_o, w0, w1⟩ := hs
  have g0_17_i := bM_0_17 hB_i_o
  have g0_17_o : o.1 0 17 = i_o.1 0 17 := fr_o.1 0 17 rfl
  have g0_27_i := bM_0_27 hB_i_o
  have g0_27_o : o.1 0 27 = i_o.1 0 27 := fr_o.1 0 27 rfl
  have g0_32_i := bM_0_32 hB_i_o
  have g0_32_o : o.1 0 32 = i_o.1 0 32 := fr_o.1 0 32 rfl
  show T (l_X12_fall_134 x2 z3 z5 z7 x9 x10 x11 o x12) _
  unfold l_X12_fall_134
  refine T_qLt ⟨by omega, by omega⟩ ⟨by omega, by omega⟩ (fun h1 => ?_) (fun h1 => ?_)
  ·
    refine T_qIn ⟨by omega, by omega⟩ ?_
    refine T_qNm (fun o38 e_o38 => ?_)
    have hB_o38 : BoxM o38 := by rw [e_o38]; exact Box.s1 hB_o (show -2147483648 ≤ 0 ∧ 0 ≤ 2147483647 from ⟨by omega, by omega⟩)
    have fr_o38 : Fr [(53, 9999)] i_o o38 := by rw [e_o38]; exact Fr.s1 fr_o rfl
    have g0_17_o38 : o38.1 0 17 = o.1 0 17 := by rw [e_o38]; rfl
    have g0_27_o38 : o38.1 0 27 = o.1 0 27 := by rw [e_o38]; rfl
    have g0_32_o38 : o38.1 0 32 = o.1 0 32 := by rw [e_o38]; rfl
    refine T_some ?_
    show (BoxM o38 ∧ (Fr [(53, 9999)] i_o o38) ∧ (0 ≤ (x12 + 1) ∧ (x12 + 1) ≤ o38.1 0 17) ∧ (WK o38 (x12 + 1) 0)) ∧ (o38.1 0 17 - (x12 + 1)).toNat < (o.1 0 17 - x12).toNat
    exact ⟨⟨hB_o38, fr_o38, (by omega), (by first | assumption | exact WK_0 | exact WK.up (by assumption) (by omega) | (rw [e_o38]; exact WK_s w1 (by omega)) | (have q2 := w1; rwa [show x12 = o.1 0 17 by omega] at q2) | omega)⟩, by omega⟩
  ·
    refine T_some ?_
    show BoxM o ∧ (Fr [(53, 9999)] i_o o) ∧ (WK o (o.1 0 17) 0)
    exact ⟨hB_o, fr_o, (by first | assumption | exact WK_0 | exact WK.up (by assumption) (by omega) | (rw [e_o38]; exact WK_s w1 (by omega)) | (have q2 := w1; rwa [show x12 = o.1 0 17 by omega] at q2) | omega)⟩
set_option maxRecDepth 20000 in
set_option maxHeartbeats 4000000 in
theorem tl_X12_fall_331 (o : OO) (x2 : Int) (z3 : Int64) (x9 : Int) (x11 : Int) (i_z5 : Int64) (i_z7 : Int64) (i_x10 : Int) (i_x12 : Int) (hB_o : BoxM o) (k0 : inR x2) (k1 : 0 ≤ x11 ∧ x11 ≤ x2) (k2 : 0 ≤ x2 ∧ x2 ≤ 20) (k3 : 0 ≤ x9 ∧ x9 ≤ 9999) (k4 : x11 < x2) (v0 : 0 ≤ i_x12 ∧ i_x12 ≤ o.1 0 17) : T (loopW (fun s => l_X12_fall_331 o x2 z3 x9 x11 s.1 s.2.1 s.2.2.1 s.2.2.2) (i_z5, i_z7, i_x10, i_x12)) (fun r => True) := by
  refine T_loop (fun s => (0 ≤ s.2.2.2 ∧ s.2.2.2 ≤ o.1 0 17)) (fun s => (o.1 0 17 - s.2.2.2).toNat) (by exact v0) (fun s hs => ?_)
  obtain ⟨z5, z7, x10, x12⟩ := s
  replace hs : (0 ≤ x12 ∧ x12 ≤ o.1 0 17) := hs
  have w0 := hs
  have g0_17_o := bM_0_17 hB_o
  have g0_27_o := bM_0_27 hB_o
  have g0_32_o := bM_0_32 hB_o
  show T (l_X12_fall_331 o x2 z3 x9 x11 z5 z7 x10 x12) _
  unfold l_X12_fall_331
  refine T_qLt ⟨by omega, by omega⟩ ⟨by omega, by omega⟩ (fun h2 => ?_) (fun h2 => ?_)
  ·
    refine T_qB (t_X12_has z5 x12 (by omega)) (fun r2 hc_r2 hp3 => ?_)
    replace hp3 : ((r2 = 1 ∧ bt z5 x12.toNat = true) ∨ (r2 = 0 ∧ bt z5 x12.toNat = false)) := hp3
    refine T_qEq ⟨by omega, by omega⟩ ⟨by decide, by decide⟩ (fun h4 => ?_) (fun h4 => ?_)
    ·
      unfold b_X12_fall_387
      refine T_some ?_
      show ((0 ≤ (x12 + 1) ∧ (x12 + 1) ≤ o.1 0 17)) ∧ (o.1 0 17 - (x12 + 1)).toNat < (o.1 0 17 - x12).toNat
      exact ⟨(by omega), by omega⟩
    ·
      refine T_qIn ⟨by omega, by omega⟩ ?_
      refine T_qNm (fun n5 e_n5 => ?_)
      have b_n5 : -2147483648 ≤ n5 ∧ n5 ≤ 2147483647 := by rw [e_n5]; exact bM_53 hB_o _
      refine T_qLt ⟨by omega, by omega⟩ ⟨by omega, by omega⟩ (fun h5 => ?_) (fun h5 => ?_)
      ·
        refine T_qNm (fun m6 e_m6 => ?_)
        refine T_qNm (fun m7 e_m7 => ?_)
        unfold b_X12_fall_387
        refine T_some ?_
        show ((0 ≤ (x12 + 1) ∧ (x12 + 1) ≤ o.1 0 17)) ∧ (o.1 0 17 - (x12 + 1)).toNat < (o.1 0 17 - x12).toNat
        exact ⟨(by omega), by omega⟩
      ·
        unfold b_X12_fall_387
        refine T_some ?_
        show ((0 ≤ (x12 + 1) ∧ (x12 + 1) ≤ o.1 0 17)) ∧ (o.1 0 17 - (x12 + 1)).toNat < (o.1 0 17 - x12).toNat
        exact ⟨(by omega), by omega⟩
  ·
    refine T_some ?_
    show True
    exact trivial
set_option maxRecDepth 20000 in
set_option maxHeartbeats 4000000 in
theorem tl_X12_fall_49 (o : OO) (x2 : Int) (z3 : Int64) (z7 : Int64) (i_z5 : Int64) (i_x9 : Int) (hB_o : BoxM o) (k0 : inR x2) (v0 : 0 ≤ i_x9 ∧ i_x9 ≤ o.1 0 17) : T (loopW (fun s => l_X12_fall_49 o x2 z3 z7 s.1 s.2) (i_z5, i_x9)) (fun r => True) := by
  refine T_loop (fun s => (0 ≤ s.2 ∧ s.2 ≤ o.1 0 17)) (fun s => (o.1 0 17 - s.2).toNat) (by exact v0) (fun s hs => ?_)
  obtain ⟨z5, x9⟩ := s
  replace hs : (0 ≤ x9 ∧ x9 ≤ o.1 0 17) := hs
  have w0 := hs
  have g0_17_o := bM_0_17 hB_o
  have g0_27_o := bM_0_27 hB_o
  have g0_32_o := bM_0_32 hB_o
  show T (l_X12_fall_49 o x2 z3 z7 z5 x9) _
  unfold l_X12_fall_49
  refine T_qLt ⟨by omega, by omega⟩ ⟨by omega, by omega⟩ (fun h6 => ?_) (fun h6 => ?_)
  ·
    refine T_qIn ⟨by omega, by omega⟩ ?_
    refine T_qNm (fun n43 e_n43 => ?_)
    have b_n43 : 0 ≤ n43 ∧ n43 ≤ 2 := by rw [e_n43]; exact bM_14 hB_o _
    refine T_qEq ⟨by omega, by omega⟩ ⟨by decide, by decide⟩ (fun h7 => ?_) (fun h7 => ?_)
    ·
      refine T_qIn ⟨by omega, by omega⟩ ?_
      refine T_qNm (fun n45 e_n45 => ?_)
      have b_n45 : 0 ≤ n45 ∧ n45 ≤ 1 := by rw [e_n45]; exact bM_16 hB_o _
      refine T_qEq ⟨by omega, by omega⟩ ⟨by decide, by decide⟩ (fun h8 => ?_) (fun h8 => ?_)
      ·
        refine T_qIn ⟨by omega, by omega⟩ ?_
        refine T_qNm (fun n47 e_n47 => ?_)
        have b_n47 : 0 ≤ n47 ∧ n47 ≤ 63 := by rw [e_n47]; exact bM_13 hB_o _
        refine T_qB (t_X12_has z3 n47 (by omega)) (fun r48 hc_r48 hp9 => ?_)
        replace hp9 : ((r48 = 1 ∧ bt z3 n47.toNat = true) ∨ (r48 = 0 ∧ bt z3 n47.toNat = false)) := hp9
        refine T_qEq ⟨by omega, by omega⟩ ⟨by decide, by decide⟩ (fun h10 => ?_) (fun h10 => ?_)
        ·
          unfold b_X12_fall_103
          refine T_qNm (fun m41 e_m41 => ?_)
          refine T_some ?_
          show ((0 ≤ (x9 + 1) ∧ (x9 + 1) ≤ o.1 0 17)) ∧ (o.1 0 17 - (x9 + 1)).toNat < (o.1 0 17 - x9).toNat
          exact ⟨(by omega), by omega⟩
        ·
          unfold b_X12_fall_102
          unfold b_X12_fall_103
          refine T_qNm (fun m41 e_m41 => ?_)
          refine T_some ?_
          show ((0 ≤ (x9 + 1) ∧ (x9 + 1) ≤ o.1 0 17)) ∧ (o.1 0 17 - (x9 + 1)).toNat < (o.1 0 17 - x9).toNat
          exact ⟨(by omega), by omega⟩
      ·
        unfold b_X12_fall_102
        unfold b_X12_fall_103
        refine T_qNm (fun m41 e_m41 => ?_)
        refine T_some ?_
        show ((0 ≤ (x9 + 1) ∧ (x9 + 1) ≤ o.1 0 17)) ∧ (o.1 0 17 - (x9 + 1)).toNat < (o.1 0 17 - x9).toNat
        exact ⟨(by omega), by omega⟩
    ·
      unfold b_X12_fall_102
      unfold b_X12_fall_103
      refine T_qNm (fun m41 e_m41 => ?_)
      refine T_some ?_
      show ((0 ≤ (x9 + 1) ∧ (x9 + 1) ≤ o.1 0 17)) ∧ (o.1 0 17 - (x9 + 1)).toNat < (o.1 0 17 - x9).toNat
      exact ⟨(by omega), by omega⟩
  ·
    refine T_some ?_
    show True
    exact trivial
set_option maxRecDepth 20000 in
set_option maxHeartbeats 4000000 in
theorem tl_X12_fall_222 (o : OO) (x2 : Int) (z3 : Int64) (z5 : Int64) (z7 : Int64) (x9 : Int) (x10 : Int) (x11 : Int) (x12 : Int) (i_x13 : Int) (i_x14 : Int) (hB_o : BoxM o) (k0 : inR x2) (k1 : 0 ≤ x12 ∧ x12 ≤ o.1 0 27) (k2 : WK o (o.1 0 17) x12) (k3 : 0 ≤ x11 ∧ x11 ≤ x2) (k4 : 0 ≤ x2 ∧ x2 ≤ 20) (k5 : 0 ≤ x9 ∧ x9 ≤ 9999) (k6 : x11 < x2) (k7 : x12 < o.1 0 27) (v0 : 0 ≤ i_x14 ∧ i_x14 ≤ o.1 0 17) (v1 : (i_x13 = -9 ∨ 0 ≤ i_x13) ∧ i_x13 < o.1 0 17) : T (loopW (fun s => l_X12_fall_222 o x2 z3 z5 z7 x9 x10 x11 x12 s.1 s.2) (i_x13, i_x14)) (fun r => ((r = -9 ∨ 0 ≤ r) ∧ r < o.1 0 17)) := by
  refine T_loop (fun s => (0 ≤ s.2 ∧ s.2 ≤ o.1 0 17) ∧ ((s.1 = -9 ∨ 0 ≤ s.1) ∧ s.1 < o.1 0 17)) (fun s => (o.1 0 17 - s.2).toNat) (by exact ⟨v0, v1⟩) (fun s hs => ?_)
  obtain ⟨x13, x14⟩ := s
  replace hs : (0 ≤ x14 ∧ x14 ≤ o.1 0 17) ∧ ((x13 = -9 ∨ 0 ≤ x13) ∧ x13 < o.1 0 17) := hs
  obtain ⟨w0, w1⟩ := hs
  have g0_17_o := bM_0_17 hB_o
  have g0_27_o := bM_0_27 hB_o
  have g0_32_o := bM_0_32 hB_o
  show T (l_X12_fall_222 o x2 z3 z5 z7 x9 x10 x11 x12 x13 x14) _
  unfold l_X12_fall_222
  refine T_qLt ⟨by omega, by omega⟩ ⟨by omega, by omega⟩ (fun h11 => ?_) (fun h11 => ?_)
  ·
    refine T_qB (t_X12_has z5 x14 (by omega)) (fun r16 hc_r16 hp12 => ?_)
    replace hp12 : ((r16 = 1 ∧ bt z5 x14.toNat = true) ∨ (r16 = 0 ∧ bt z5 x14.toNat = false)) := hp12
    refine T_qEq ⟨by omega, by omega⟩ ⟨by decide, by decide⟩ (fun h13 => ?_) (fun h13 => ?_)
    ·
      unfold b_X12_fall_259
      refine T_qLt ⟨by decide, by decide⟩ ⟨by decide, by decide⟩ (fun h14 => ?_) (fun h14 => ?_)
      ·
        refine T_qLt ⟨by omega, by omega⟩ ⟨by decide, by decide⟩ (fun h15 => ?_) (fun h15 => ?_)
        ·
          unfold b_X12_fall_291
          unfold b_X12_fall_298
          refine T_some ?_
          show ((0 ≤ (x14 + 1) ∧ (x14 + 1) ≤ o.1 0 17) ∧ ((x14 = -9 ∨ 0 ≤ x14) ∧ x14 < o.1 0 17)) ∧ (o.1 0 17 - (x14 + 1)).toNat < (o.1 0 17 - x14).toNat
          exact ⟨⟨(by omega), (by omega)⟩, by omega⟩
        ·
          refine T_qIn ⟨by omega, by omega⟩ ?_
          refine T_qNm (fun n13 e_n13 => ?_)
          have b_n13 : 0 ≤ n13 ∧ n13 ≤ 63 := by rw [e_n13]; exact bM_13 hB_o _
          refine T_qIn ⟨by omega, by omega⟩ ?_
          refine T_qNm (fun n15 e_n15 => ?_)
          have b_n15 : 0 ≤ n15 ∧ n15 ≤ 100000000 := by rw [e_n15]; exact bM_52 hB_o _
          refine T_qLt ⟨by decide, by decide⟩ ⟨by omega, by omega⟩ (fun h16 => ?_) (fun h16 => ?_)
          ·
            unfold b_X12_fall_291
            unfold b_X12_fall_298
            refine T_some ?_
            show ((0 ≤ (x14 + 1) ∧ (x14 + 1) ≤ o.1 0 17) ∧ ((x14 = -9 ∨ 0 ≤ x14) ∧ x14 < o.1 0 17)) ∧ (o.1 0 17 - (x14 + 1)).toNat < (o.1 0 17 - x14).toNat
            exact ⟨⟨(by omega), (by omega)⟩, by omega⟩
          ·
            unfold b_X12_fall_296
            unfold b_X12_fall_298
            refine T_some ?_
            show ((0 ≤ (x14 + 1) ∧ (x14 + 1) ≤ o.1 0 17) ∧ ((x13 = -9 ∨ 0 ≤ x13) ∧ x13 < o.1 0 17)) ∧ (o.1 0 17 - (x14 + 1)).toNat < (o.1 0 17 - x14).toNat
            exact ⟨⟨(by omega), (by omega)⟩, by omega⟩
      ·
        unfold b_X12_fall_296
        unfold b_X12_fall_298
        refine T_some ?_
        show ((0 ≤ (x14 + 1) ∧ (x14 + 1) ≤ o.1 0 17) ∧ ((x13 = -9 ∨ 0 ≤ x13) ∧ x13 < o.1 0 17)) ∧ (o.1 0 17 - (x14 + 1)).toNat < (o.1 0 17 - x14).toNat
        exact ⟨⟨(by omega), (by omega)⟩, by omega⟩
    ·
      refine T_qIn ⟨by omega, by omega⟩ ?_
      refine T_qNm (fun n19 e_n19 => ?_)
      have b_n19 : 0 ≤ n19 ∧ n19 ≤ 63 := by rw [e_n19]; exact bM_13 hB_o _
      refine T_qIn ⟨by omega, by omega⟩ ?_
      refine T_qNm (fun n21 e_n21 => ?_)
      have b_n21 : 0 ≤ n21 ∧ n21 ≤ 100000000 := by rw [e_n21]; exact bM_52 hB_o _
      unfold b_X12_fall_259
      refine T_qLt ⟨by omega, by omega⟩ ⟨by decide, by decide⟩ (fun h17 => ?_) (fun h17 => ?_)
      ·
        refine T_qLt ⟨by omega, by omega⟩ ⟨by decide, by decide⟩ (fun h18 => ?_) (fun h18 => ?_)
        ·
          unfold b_X12_fall_291
          unfold b_X12_fall_298
          refine T_some ?_
          show ((0 ≤ (x14 + 1) ∧ (x14 + 1) ≤ o.1 0 17) ∧ ((x14 = -9 ∨ 0 ≤ x14) ∧ x14 < o.1 0 17)) ∧ (o.1 0 17 - (x14 + 1)).toNat < (o.1 0 17 - x14).toNat
          exact ⟨⟨(by omega), (by omega)⟩, by omega⟩
        ·
          refine T_qIn ⟨by omega, by omega⟩ ?_
          refine T_qNm (fun n13 e_n13 => ?_)
          have b_n13 : 0 ≤ n13 ∧ n13 ≤ 63 := by rw [e_n13]; exact bM_13 hB_o _
          refine T_qIn ⟨by omega, by omega⟩ ?_
          refine T_qNm (fun n15 e_n15 => ?_)
          have b_n15 : 0 ≤ n15 ∧ n15 ≤ 100000000 := by rw [e_n15]; exact bM_52 hB_o _
          refine T_qLt ⟨by omega, by omega⟩ ⟨by omega, by omega⟩ (fun h19 => ?_) (fun h19 => ?_)
          ·
            unfold b_X12_fall_291
            unfold b_X12_fall_298
            refine T_some ?_
            show ((0 ≤ (x14 + 1) ∧ (x14 + 1) ≤ o.1 0 17) ∧ ((x14 = -9 ∨ 0 ≤ x14) ∧ x14 < o.1 0 17)) ∧ (o.1 0 17 - (x14 + 1)).toNat < (o.1 0 17 - x14).toNat
            exact ⟨⟨(by omega), (by omega)⟩, by omega⟩
          ·
            unfold b_X12_fall_296
            unfold b_X12_fall_298
            refine T_some ?_
            show ((0 ≤ (x14 + 1) ∧ (x14 + 1) ≤ o.1 0 17) ∧ ((x13 = -9 ∨ 0 ≤ x13) ∧ x13 < o.1 0 17)) ∧ (o.1 0 17 - (x14 + 1)).toNat < (o.1 0 17 - x14).toNat
            exact ⟨⟨(by omega), (by omega)⟩, by omega⟩
      ·
        unfold b_X12_fall_296
        unfold b_X12_fall_298
        refine T_some ?_
        show ((0 ≤ (x14 + 1) ∧ (x14 + 1) ≤ o.1 0 17) ∧ ((x13 = -9 ∨ 0 ≤ x13) ∧ x13 < o.1 0 17)) ∧ (o.1 0 17 - (x14 + 1)).toNat < (o.1 0 17 - x14).toNat
        exact ⟨⟨(by omega), (by omega)⟩, by omega⟩
  ·
    refine T_some ?_
    show ((x13 = -9 ∨ 0 ≤ x13) ∧ x13 < o.1 0 17)
    exact (by omega)
set_option maxRecDepth 20000 in
set_option maxHeartbeats 4000000 in
theorem tl_X12_fall_160 (x2 : Int) (z3 : Int64) (z5 : Int64) (z7 : Int64) (x9 : Int) (x10 : Int) (x11 : Int) (i_o : OO) (i_x12 : Int) (hB_i_o : BoxM i_o) (k0 : inR x2) (k1 : 0 ≤ x11 ∧ x11 ≤ x2) (k2 : 0 ≤ x2 ∧ x2 ≤ 20) (k3 : 0 ≤ x9 ∧ x9 ≤ 9999) (k4 : x11 < x2) (v0 : 0 ≤ i_x12 ∧ i_x12 ≤ i_o.1 0 27) (v1 : WK i_o (i_o.1 0 17) i_x12) : T (loopW (fun s => l_X12_fall_160 x2 z3 z5 z7 x9 x10 x11 s.1 s.2) (i_o, i_x12)) (fun r => BoxM r ∧ (Fr [(52, 9999), (53, 9999)] i_o r) ∧ (WK r (r.1 0 17) 40)) := by
  have fr_i_o : Fr [(52, 9999), (53, 9999)] i_o i_o := Fr.rf
  refine T_loop (fun s => BoxM s.1 ∧ (Fr [(52, 9999), (53, 9999)] i_o s.1) ∧ (0 ≤ s.2 ∧ s.2 ≤ s.1.1 0 27) ∧ (WK s.1 (s.1.1 0 17) s.2)) (fun s => (s.1.1 0 27 - s.2).toNat) (by exact ⟨hB_i_o, fr_i_o, v0, v1⟩) (fun s hs => ?_)
  obtain ⟨o, x12⟩ := s
  replace hs : BoxM o ∧ (Fr [(52, 9999), (53, 9999)] i_o o) ∧ (0 ≤ x12 ∧ x12 ≤ o.1 0 27) ∧ (WK o (o.1 0 17) x12) := hs
  obtain ⟨hB_o, fr_o, w0, w1⟩ := hs
  have g0_17_i := bM_0_17 hB_i_o
  have g0_17_o : o.1 0 17 = i_o.1 0 17 := fr_o.1 0 17 rfl
  have g0_27_i := bM_0_27 hB_i_o
  have g0_27_o : o.1 0 27 = i_o.1 0 27 := fr_o.1 0 27 rfl
  have g0_32_i := bM_0_32 hB_i_o
  have g0_32_o : o.1 0 32 = i_o.1 0 32 := fr_o.1 0 32 rfl
  show T (l_X12_fall_160 x2 z3 z5 z7 x9 x10 x11 o x12) _
  unfold l_X12_fall_160
  refine T_qLt ⟨by omega, by omega⟩ ⟨by omega, by omega⟩ (fun h20 => ?_) (fun h20 => ?_)
  ·
    refine T_qIn ⟨by omega, by omega⟩ ?_
    refine T_qNm (fun n23 e_n23 => ?_)
    have b_n23 : -9 ≤ n23 ∧ n23 ≤ 31 := by rw [e_n23]; exact bM_21 hB_o _
    refine T_qLt ⟨by omega, by omega⟩ ⟨by decide, by decide⟩ (fun h21 => ?_) (fun h21 => ?_)
    ·
      unfold b_X12_fall_322
      refine T_some ?_
      show (BoxM o ∧ (Fr [(52, 9999), (53, 9999)] i_o o) ∧ (0 ≤ (x12 + 1) ∧ (x12 + 1) ≤ o.1 0 27) ∧ (WK o (o.1 0 17) (x12 + 1))) ∧ (o.1 0 27 - (x12 + 1)).toNat < (o.1 0 27 - x12).toNat
      exact ⟨⟨hB_o, fr_o, (by omega), (by first | assumption | exact WK_0 | exact WK.up (by assumption) (by omega) | (rw [e_o38]; exact WK_s w1 (by omega)) | (have q2 := w1; rwa [show x12 = o.1 0 17 by omega] at q2) | omega)⟩, by omega⟩
    ·
      refine T_qIn ⟨by omega, by omega⟩ ?_
      refine T_qNm (fun n25 e_n25 => ?_)
      have b_n25 : -9 ≤ n25 ∧ n25 ≤ 31 := by rw [e_n25]; exact bM_21 hB_o _
      refine T_qIn ⟨by omega, by omega⟩ ?_
      refine T_qNm (fun n27 e_n27 => ?_)
      have b_n27 : 0 ≤ n27 ∧ n27 ≤ 63 := by rw [e_n27]; exact bM_13 hB_o _
      refine T_qB (t_X12_has z3 n27 (by omega)) (fun r28 hc_r28 hp22 => ?_)
      replace hp22 : ((r28 = 1 ∧ bt z3 n27.toNat = true) ∨ (r28 = 0 ∧ bt z3 n27.toNat = false)) := hp22
      refine T_qEq ⟨by omega, by omega⟩ ⟨by decide, by decide⟩ (fun h23 => ?_) (fun h23 => ?_)
      ·
        refine T_qIn ⟨by omega, by omega⟩ ?_
        refine T_qNm (fun n31 e_n31 => ?_)
        have b_n31 : -9 ≤ n31 ∧ n31 ≤ 31 := by rw [e_n31]; exact bM_21 hB_o _
        refine T_qIn ⟨by omega, by omega⟩ ?_
        refine T_qNm (fun n33 e_n33 => ?_)
        have b_n33 : 0 ≤ n33 ∧ n33 ≤ 63 := by rw [e_n33]; exact bM_13 hB_o _
        refine T_qB (t_X12_setSteps o n33 z3 hB_o (by omega)) (fun o36 hc_o36 hp24 => ?_)
        replace hp24 : BoxM o36 ∧ (Fr [(52, 9999)] o o36) := hp24
        obtain ⟨hB_o36, fc_o36⟩ := hp24
        have fr_o36 : Fr [(52, 9999), (53, 9999)] i_o o36 := Fr.tr fr_o fc_o36 rfl
        have g0_17_o36 : o36.1 0 17 = o.1 0 17 := fc_o36.1 0 17 rfl
        have g0_27_o36 : o36.1 0 27 = o.1 0 27 := fc_o36.1 0 27 rfl
        have g0_32_o36 : o36.1 0 32 = o.1 0 32 := fc_o36.1 0 32 rfl
        have wk36 : WK o36 (o36.1 0 17) x12 := by rw [g0_17_o36]; exact WK.cg w1 (fun j => fc_o36.1 53 j rfl)
        unfold e_X12_fall_222
        refine T_qB (tl_X12_fall_222 o36 x2 z3 z5 z7 x9 x10 x11 x12 (-9) 0 hB_o36 (by omega) (by omega) (by first | assumption | exact WK_0 | exact WK.up (by assumption) (by omega) | (rw [e_o38]; exact WK_s w1 (by omega)) | (have q2 := w1; rwa [show x12 = o.1 0 17 by omega] at q2) | omega) (by omega) (by omega) (by omega) (by omega) (by omega) (by omega) (by omega)) (fun r25 hc_r25 hp26 => ?_)
        obtain ⟨x13_27, q_x13_27⟩ : ∃ q, q = r25 := ⟨_, rfl⟩
        subst q_x13_27
        replace hp26 : ((x13_27 = -9 ∨ 0 ≤ x13_27) ∧ x13_27 < o36.1 0 17) := hp26
        show T (b_X12_fall_306 o36 x2 z3 z5 z7 x9 x10 x11 x12 x13_27) _
        unfold b_X12_fall_306
        refine T_qLt ⟨by omega, by omega⟩ ⟨by decide, by decide⟩ (fun h28 => ?_) (fun h28 => ?_)
        ·
          unfold b_X12_fall_322
          refine T_some ?_
          show (BoxM o36 ∧ (Fr [(52, 9999), (53, 9999)] i_o o36) ∧ (0 ≤ (x12 + 1) ∧ (x12 + 1) ≤ o36.1 0 27) ∧ (WK o36 (o36.1 0 17) (x12 + 1))) ∧ (o36.1 0 27 - (x12 + 1)).toNat < (o.1 0 27 - x12).toNat
          exact ⟨⟨hB_o36, fr_o36, (by omega), (by first | assumption | exact WK_0 | exact WK.up (by assumption) (by omega) | (rw [e_o38]; exact WK_s w1 (by omega)) | (have q2 := w1; rwa [show x12 = o.1 0 17 by omega] at q2) | omega)⟩, by omega⟩
        ·
          refine T_qIn ⟨by omega, by omega⟩ ?_
          refine T_qNm (fun n9 e_n9 => ?_)
          have b_n9 : -2147483648 ≤ n9 ∧ n9 ≤ 2147483647 := by rw [e_n9]; exact bM_53 hB_o36 _
          have wk9 := wk36 x13_27 (by omega) (by omega)
          rw [← e_n9] at wk9
          refine T_qIn ⟨by omega, by omega⟩ ?_
          refine T_qNm (fun o11 e_o11 => ?_)
          have hB_o11 : BoxM o11 := by rw [e_o11]; exact Box.s1 hB_o36 (show -2147483648 ≤ (n9 + 1) ∧ (n9 + 1) ≤ 2147483647 from ⟨by omega, by omega⟩)
          have fr_o11 : Fr [(52, 9999), (53, 9999)] i_o o11 := by rw [e_o11]; exact Fr.s1 fr_o36 rfl
          have g0_17_o11 : o11.1 0 17 = o36.1 0 17 := by rw [e_o11]; rfl
          have g0_27_o11 : o11.1 0 27 = o36.1 0 27 := by rw [e_o11]; rfl
          have g0_32_o11 : o11.1 0 32 = o36.1 0 32 := by rw [e_o11]; rfl
          have wk11 : WK o11 (o11.1 0 17) (x12 + 1) := by rw [g0_17_o11, e_o11]; exact WK_upd wk36 (by omega) (by omega)
          unfold b_X12_fall_322
          refine T_some ?_
          show (BoxM o11 ∧ (Fr [(52, 9999), (53, 9999)] i_o o11) ∧ (0 ≤ (x12 + 1) ∧ (x12 + 1) ≤ o11.1 0 27) ∧ (WK o11 (o11.1 0 17) (x12 + 1))) ∧ (o11.1 0 27 - (x12 + 1)).toNat < (o.1 0 27 - x12).toNat
          exact ⟨⟨hB_o11, fr_o11, (by omega), (by first | assumption | exact WK_0 | exact WK.up (by assumption) (by omega) | (rw [e_o38]; exact WK_s w1 (by omega)) | (have q2 := w1; rwa [show x12 = o.1 0 17 by omega] at q2) | omega)⟩, by omega⟩
      ·
        unfold b_X12_fall_322
        refine T_some ?_
        show (BoxM o ∧ (Fr [(52, 9999), (53, 9999)] i_o o) ∧ (0 ≤ (x12 + 1) ∧ (x12 + 1) ≤ o.1 0 27) ∧ (WK o (o.1 0 17) (x12 + 1))) ∧ (o.1 0 27 - (x12 + 1)).toNat < (o.1 0 27 - x12).toNat
        exact ⟨⟨hB_o, fr_o, (by omega), (by first | assumption | exact WK_0 | exact WK.up (by assumption) (by omega) | (rw [e_o38]; exact WK_s w1 (by omega)) | (have q2 := w1; rwa [show x12 = o.1 0 17 by omega] at q2) | omega)⟩, by omega⟩
  ·
    refine T_some ?_
    show BoxM o ∧ (Fr [(52, 9999), (53, 9999)] i_o o) ∧ (WK o (o.1 0 17) 40)
    exact ⟨hB_o, fr_o, (by first | assumption | exact WK_0 | exact WK.up (by assumption) (by omega) | (rw [e_o38]; exact WK_s w1 (by omega)) | (have q2 := w1; rwa [show x12 = o.1 0 17 by omega] at q2) | omega)⟩
set_option maxRecDepth 20000 in
set_option maxHeartbeats 4000000 in
theorem tl_X12_fall_125 (x2 : Int) (z3 : Int64) (x9 : Int) (i_o : OO) (i_z5 : Int64) (i_z7 : Int64) (i_x10 : Int) (i_x11 : Int) (hB_i_o : BoxM i_o) (k0 : inR x2) (k1 : 0 ≤ x2 ∧ x2 ≤ 20) (k2 : 0 ≤ x9 ∧ x9 ≤ 9999) (v0 : 0 ≤ i_x11 ∧ i_x11 ≤ x2) : T (loopW (fun s => l_X12_fall_125 x2 z3 x9 s.1 s.2.1 s.2.2.1 s.2.2.2.1 s.2.2.2.2) (i_o, i_z5, i_z7, i_x10, i_x11)) (fun r => BoxM r.1 ∧ (Fr [(52, 9999), (53, 9999)] i_o r.1)) := by
  have fr_i_o : Fr [(52, 9999), (53, 9999)] i_o i_o := Fr.rf
  refine T_loop (fun s => BoxM s.1 ∧ (Fr [(52, 9999), (53, 9999)] i_o s.1) ∧ (0 ≤ s.2.2.2.2 ∧ s.2.2.2.2 ≤ x2)) (fun s => (x2 - s.2.2.2.2).toNat) (by exact ⟨hB_i_o, fr_i_o, v0⟩) (fun s hs => ?_)
  obtain ⟨o, z5, z7, x10, x11⟩ := s
  replace hs : BoxM o ∧ (Fr [(52, 9999), (53, 9999)] i_o o) ∧ (0 ≤ x11 ∧ x11 ≤ x2) := hs
  obtain ⟨hB_o, fr_o, w0⟩ := hs
  have g0_17_i := bM_0_17 hB_i_o
  have g0_17_o : o.1 0 17 = i_o.1 0 17 := fr_o.1 0 17 rfl
  have g0_27_i := bM_0_27 hB_i_o
  have g0_27_o : o.1 0 27 = i_o.1 0 27 := fr_o.1 0 27 rfl
  have g0_32_i := bM_0_32 hB_i_o
  have g0_32_o : o.1 0 32 = i_o.1 0 32 := fr_o.1 0 32 rfl
  show T (l_X12_fall_125 x2 z3 x9 o z5 z7 x10 x11) _
  unfold l_X12_fall_125
  refine T_qLt ⟨by omega, by omega⟩ ⟨by omega, by omega⟩ (fun h29 => ?_) (fun h29 => ?_)
  ·
    unfold e_X12_fall_134
    refine T_qB (tl_X12_fall_134 x2 z3 z5 z7 x9 x10 x11 o 0 hB_o (by omega) (by omega) (by omega) (by omega) (by omega) (by omega) (by first | assumption | exact WK_0 | exact WK.up (by assumption) (by omega) | (rw [e_o38]; exact WK_s w1 (by omega)) | (have q2 := w1; rwa [show x12 = o.1 0 17 by omega] at q2) | omega)) (fun r30 hc_r30 hp31 => ?_)
    obtain ⟨o_32, q_o_32⟩ : ∃ q, q = r30 := ⟨_, rfl⟩
    subst q_o_32
    replace hp31 : BoxM o_32 ∧ (Fr [(53, 9999)] o o_32) ∧ (WK o_32 (o_32.1 0 17) 0) := hp31
    have hps_hp31 := hp31
    obtain ⟨hp31_0, hp31_1, hp31_2⟩ := hps_hp31
    obtain ⟨hB_o_32, fc_o_32, hp31⟩ := hp31
    replace hp31 := hid hp31
    have fr_o_32 : Fr [(52, 9999), (53, 9999)] i_o o_32 := Fr.tr fr_o fc_o_32 rfl
    have g0_17_o_32 : o_32.1 0 17 = o.1 0 17 := fc_o_32.1 0 17 rfl
    have g0_27_o_32 : o_32.1 0 27 = o.1 0 27 := fc_o_32.1 0 27 rfl
    have g0_32_o_32 : o_32.1 0 32 = o.1 0 32 := fc_o_32.1 0 32 rfl
    show T (b_X12_fall_157 o_32 x2 z3 z5 z7 x9 x10 x11) _
    unfold b_X12_fall_157
    unfold e_X12_fall_160
    refine T_qB (tl_X12_fall_160 x2 z3 z5 z7 x9 x10 x11 o_32 0 hB_o_32 (by omega) (by omega) (by omega) (by omega) (by omega) (by omega) (by first | assumption | exact WK_0 | exact WK.up (by assumption) (by omega) | (rw [e_o38]; exact WK_s w1 (by omega)) | (have q2 := w1; rwa [show x12 = o.1 0 17 by omega] at q2) | omega)) (fun r33 hc_r33 hp34 => ?_)
    obtain ⟨o_35, q_o_35⟩ : ∃ q, q = r33 := ⟨_, rfl⟩
    subst q_o_35
    replace hp34 : BoxM o_35 ∧ (Fr [(52, 9999), (53, 9999)] o_32 o_35) ∧ (WK o_35 (o_35.1 0 17) 40) := hp34
    have hps_hp34 := hp34
    obtain ⟨hp34_0, hp34_1, hp34_2⟩ := hps_hp34
    obtain ⟨hB_o_35, fc_o_35, hp34⟩ := hp34
    replace hp34 := hid hp34
    have fr_o_35 : Fr [(52, 9999), (53, 9999)] i_o o_35 := Fr.tr fr_o_32 fc_o_35 rfl
    have g0_17_o_35 : o_35.1 0 17 = o_32.1 0 17 := fc_o_35.1 0 17 rfl
    have g0_27_o_35 : o_35.1 0 27 = o_32.1 0 27 := fc_o_35.1 0 27 rfl
    have g0_32_o_35 : o_35.1 0 32 = o_32.1 0 32 := fc_o_35.1 0 32 rfl
    show T (b_X12_fall_328 o_35 x2 z3 z5 z7 x9 x10 x11) _
    unfold b_X12_fall_328
    unfold e_X12_fall_331
    refine T_qB (tl_X12_fall_331 o_35 x2 z3 x9 x11 z5 z7 x10 0 hB_o_35 (by omega) (by omega) (by omega) (by omega) (by omega) (by omega)) (fun r36 hc_r36 hp37 => ?_)
    obtain ⟨z5_38, z7_39, x10_40⟩ := r36
    show T (b_X12_fall_393 o_35 x2 z3 z5_38 z7_39 x9 x10_40 x11) _
    unfold b_X12_fall_393
    refine T_some ?_
    show (BoxM o_35 ∧ (Fr [(52, 9999), (53, 9999)] i_o o_35) ∧ (0 ≤ (x11 + 1) ∧ (x11 + 1) ≤ x2)) ∧ (x2 - (x11 + 1)).toNat < (x2 - x11).toNat
    exact ⟨⟨hB_o_35, fr_o_35, (by omega)⟩, by omega⟩
  ·
    refine T_some ?_
    show BoxM o ∧ (Fr [(52, 9999), (53, 9999)] i_o o)
    exact ⟨hB_o, fr_o⟩
set_option maxRecDepth 20000 in
set_option maxHeartbeats 4000000 in
theorem t_X12_fall (o : OO) (x1 : Int) (x2 : Int) (hB_o : BoxM o) (k0 : inR x1) (k1 : inR x2) : T (s_X12_fall o x1 x2) (fun v => BoxM v.2 ∧ (Fr [(0, 0), (0, 3), (1, 9999), (52, 9999), (53, 9999)] o v.2)) := by
  have fr_o : Fr [(0, 0), (0, 3), (1, 9999), (52, 9999), (53, 9999)] o o := Fr.rf
  have g0_17_o := bM_0_17 hB_o
  have g0_27_o := bM_0_27 hB_o
  have g0_32_o := bM_0_32 hB_o
  unfold s_X12_fall
  refine T_qB (t_X12_isMark o x1 hB_o (by omega)) (fun r50 hc_r50 hp41 => ?_)
  replace hp41 : ((r50 = 1 ∧ 0 ≤ x1 ∧ x1 < o.1 0 32) ∨ (r50 = 0 ∧ (x1 < 0 ∨ o.1 0 32 ≤ x1))) := hp41
  refine T_qEq ⟨by omega, by omega⟩ ⟨by decide, by decide⟩ (fun h42 => ?_) (fun h42 => ?_)
  ·
    unfold b_X12_fall_18
    refine T_some ?_
    show BoxM o ∧ (Fr [(0, 0), (0, 3), (1, 9999), (52, 9999), (53, 9999)] o o)
    exact ⟨hB_o, fr_o⟩
  ·
    refine T_qB (t_X12_in x2 0 20 (by omega) (by omega) (by omega)) (fun r52 hc_r52 hp43 => ?_)
    replace hp43 : ((r52 = 1 ∧ 0 ≤ x2 ∧ x2 ≤ 20) ∨ (r52 = 0 ∧ (x2 < 0 ∨ 20 < x2))) := hp43
    refine T_qEq ⟨by omega, by omega⟩ ⟨by decide, by decide⟩ (fun h44 => ?_) (fun h44 => ?_)
    ·
      unfold b_X12_fall_18
      refine T_some ?_
      show BoxM o ∧ (Fr [(0, 0), (0, 3), (1, 9999), (52, 9999), (53, 9999)] o o)
      exact ⟨hB_o, fr_o⟩
    ·
      refine T_qB (t_X12_isLine o x1 hB_o (by omega)) (fun r54 hc_r54 hp45 => ?_)
      replace hp45 : (0 ≤ r54 ∧ r54 ≤ 1) := hp45
      refine T_qEq ⟨by omega, by omega⟩ ⟨by decide, by decide⟩ (fun h46 => ?_) (fun h46 => ?_)
      ·
        refine T_qB2 (t_X12_meets o 3 hB_o (by omega)) (fun r60 o62 hc_r60 hp47 => ?_)
        replace hp47 : BoxM o62 ∧ (Fr [(0, 0), (1, 9999)] o o62) ∧ (r60 = -3) := hp47
        obtain ⟨hB_o62, fc_o62, hp47⟩ := hp47
        have fr_o62 : Fr [(0, 0), (0, 3), (1, 9999), (52, 9999), (53, 9999)] o o62 := Fr.tr fr_o fc_o62 rfl
        have g0_17_o62 : o62.1 0 17 = o.1 0 17 := fc_o62.1 0 17 rfl
        have g0_27_o62 : o62.1 0 27 = o.1 0 27 := fc_o62.1 0 27 rfl
        have g0_32_o62 : o62.1 0 32 = o.1 0 32 := fc_o62.1 0 32 rfl
        refine T_some ?_
        show BoxM o62 ∧ (Fr [(0, 0), (0, 3), (1, 9999), (52, 9999), (53, 9999)] o o62)
        exact ⟨hB_o62, fr_o62⟩
      ·
        refine T_qB (t_X12_cellsOf o x1 hB_o (by omega)) (fun p56 hc_p56 hp48 => ?_)
        refine T_qNm (fun m58 e_m58 => ?_)
        refine T_qNm (fun m59 e_m59 => ?_)
        unfold e_X12_fall_49
        refine T_qB (tl_X12_fall_49 o x2 p56 m59 m58 0 hB_o (by omega) (by omega)) (fun r49 hc_r49 hp50 => ?_)
        obtain ⟨z5_51, q_z5_51⟩ : ∃ q, q = r49 := ⟨_, rfl⟩
        subst q_z5_51
        show T (b_X12_fall_112 o x2 p56 z5_51 m59) _
        unfold b_X12_fall_112
        refine T_qB (t_X12_nowInForce o 4 hB_o (by omega)) (fun r39 hc_r39 hp52 => ?_)
        replace hp52 : (0 ≤ r39 ∧ r39 ≤ 9999) := hp52
        unfold e_X12_fall_125
        refine T_qB (tl_X12_fall_125 x2 p56 r39 o z5_51 m59 0 0 hB_o (by omega) (by omega) (by omega) (by omega)) (fun r53 hc_r53 hp54 => ?_)
        obtain ⟨o_55, z7_56, x10_57⟩ := r53
        replace hp54 : BoxM o_55 ∧ (Fr [(52, 9999), (53, 9999)] o o_55) := hp54
        have hps_hp54 := hp54
        obtain ⟨hp54_0, hp54_1⟩ := hps_hp54
        obtain ⟨hB_o_55, fc_o_55⟩ := hp54
        have fr_o_55 : Fr [(0, 0), (0, 3), (1, 9999), (52, 9999), (53, 9999)] o o_55 := Fr.tr fr_o fc_o_55 rfl
        have g0_17_o_55 : o_55.1 0 17 = o.1 0 17 := fc_o_55.1 0 17 rfl
        have g0_27_o_55 : o_55.1 0 27 = o.1 0 27 := fc_o_55.1 0 27 rfl
        have g0_32_o_55 : o_55.1 0 32 = o.1 0 32 := fc_o_55.1 0 32 rfl
        show T (b_X12_fall_399 o_55 z7_56 x10_57) _
        unfold b_X12_fall_399
        refine T_qNm (fun o1 e_o1 => ?_)
        have hB_o1 : BoxM o1 := by rw [e_o1]; exact Box.s2 hB_o_55
        have fr_o1 : Fr [(0, 0), (0, 3), (1, 9999), (52, 9999), (53, 9999)] o o1 := by rw [e_o1]; exact Fr.s2 fr_o_55 rfl
        have g0_17_o1 : o1.1 0 17 = o_55.1 0 17 := by rw [e_o1]; rfl
        have g0_27_o1 : o1.1 0 27 = o_55.1 0 27 := by rw [e_o1]; rfl
        have g0_32_o1 : o1.1 0 32 = o_55.1 0 32 := by rw [e_o1]; rfl
        refine T_some ?_
        show BoxM o1 ∧ (Fr [(0, 0), (0, 3), (1, 9999), (52, 9999), (53, 9999)] o o1)
        exact ⟨hB_o1, fr_o1⟩
