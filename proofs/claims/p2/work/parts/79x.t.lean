set_option maxRecDepth 20000 in
set_option maxHeartbeats 1000000 in
theorem ul_X12_line_74 (o : OO) (x1 : Int) (x2 : Int) (x3 : Int) (i_x4 : Int) (hB_o : BoxM o) (k0 : 0 ≤ x3 ∧ x3 ≤ 5) (v0 : 0 ≤ i_x4 ∧ i_x4 ≤ 4) (v1 : R4 o x3 i_x4) : T (loopW (fun s => l_X12_line_74 o x1 x2 x3 s) i_x4) (Sum.elim (fun _ => True) (fun _ => (R4 o x3 4))) := by
  refine T_loop (fun s => (0 ≤ s ∧ s ≤ 4) ∧ (R4 o x3 s)) (fun s => (4 - s).toNat) ⟨v0, v1⟩ (fun s hs => ?_)
  obtain ⟨x4, q_x4⟩ : ∃ q, q = s := ⟨_, rfl⟩
  subst q_x4
  replace hs : (0 ≤ x4 ∧ x4 ≤ 4) ∧ (R4 o x3 x4) := hs
  obtain ⟨w0, w1⟩ := hs
  have g0_32_o := bM_0_32 hB_o
  show T (l_X12_line_74 o x1 x2 x3 x4) _
  unfold l_X12_line_74
  refine T_qLt ⟨by omega, by omega⟩ ⟨by decide, by decide⟩ (fun h1 => ?_) (fun h1 => ?_)
  ·
    refine T_qIn ⟨by omega, by omega⟩ ?_
    refine T_qNm (fun n56 e_n56 => ?_)
    have b_n56 : -2147483648 ≤ n56 ∧ n56 ≤ 2147483647 := by rw [e_n56]; exact bM_3 hB_o _
    refine T_qB (t_X12_in n56 0 1000 (by omega) (by omega) (by omega)) (fun r57 hc_r57 hp2 => ?_)
    replace hp2 : ((r57 = 1 ∧ 0 ≤ n56 ∧ n56 ≤ 1000) ∨ (r57 = 0 ∧ (n56 < 0 ∨ 1000 < n56))) := hp2
    refine T_qEq ⟨by omega, by omega⟩ ⟨by decide, by decide⟩ (fun h3 => ?_) (fun h3 => ?_)
    ·
      refine T_some ?_
      show True
      exact trivial
    ·
      refine T_some ?_
      show ((0 ≤ (x4 + 1) ∧ (x4 + 1) ≤ 4) ∧ (R4 o x3 (x4 + 1))) ∧ (4 - (x4 + 1)).toNat < (4 - x4).toNat
      exact ⟨⟨(by omega), (by first | assumption | exact R4_0 | exact R4_s w1 (by omega) | (have q9 := w1; rwa [show x4 = 4 by omega] at q9))⟩, by omega⟩
  ·
    refine T_some ?_
    show (R4 o x3 4)
    exact (by first | assumption | exact R4_0 | exact R4_s w1 (by omega) | (have q9 := w1; rwa [show x4 = 4 by omega] at q9))
set_option maxRecDepth 20000 in
set_option maxHeartbeats 1000000 in
theorem ul_X12_line_140 (x1 : Int) (x2 : Int) (x3 : Int) (i_o : OO) (i_x4 : Int) (hB_i_o : BoxM i_o) (k0 : 0 ≤ x3 ∧ x3 ≤ 5) (k1 : R4 i_o x3 4) (v0 : 0 ≤ i_x4 ∧ i_x4 ≤ 64) : T (loopW (fun s => l_X12_line_140 x1 x2 x3 s.1 s.2) (i_o, i_x4)) (fun r => BoxM r ∧ (Fr [(39, 9999)] i_o r)) := by
  have fr_i_o : Fr [(39, 9999)] i_o i_o := Fr.rf
  refine T_loop (fun s => BoxM s.1 ∧ (Fr [(39, 9999)] i_o s.1) ∧ (0 ≤ s.2 ∧ s.2 ≤ 64)) (fun s => (64 - s.2).toNat) ⟨hB_i_o, fr_i_o, v0⟩ (fun s hs => ?_)
  obtain ⟨o, x4⟩ := s
  replace hs : BoxM o ∧ (Fr [(39, 9999)] i_o o) ∧ (0 ≤ x4 ∧ x4 ≤ 64) := hs
  obtain ⟨hB_o, fr_o, w0⟩ := hs
  have g0_32_i := bM_0_32 hB_i_o
  have g0_32_o : o.1 0 32 = i_o.1 0 32 := fr_o.1 0 32 rfl
  have r49 : R4 o x3 4 := R4.cg (show R4 i_o x3 4 by assumption) (fun j => fr_o.1 3 j rfl)
  show T (l_X12_line_140 x1 x2 x3 o x4) _
  unfold l_X12_line_140
  refine T_qLt ⟨by omega, by omega⟩ ⟨by decide, by decide⟩ (fun h4 => ?_) (fun h4 => ?_)
  ·
    refine T_qIn ⟨by omega, by omega⟩ ?_
    refine T_qNm (fun n48 e_n48 => ?_)
    have b_n48 : 0 ≤ n48 ∧ n48 ≤ 4 := by rw [e_n48]; exact bM_11 hB_o _
    refine T_qEq ⟨by omega, by omega⟩ ⟨by decide, by decide⟩ (fun h5 => ?_) (fun h5 => ?_)
    ·
      unfold b_X12_line_175
      refine T_qIn ⟨by omega, by omega⟩ ?_
      refine T_qNm (fun o46 e_o46 => ?_)
      have hB_o46 : BoxM o46 := by rw [e_o46]; exact Box.s1 hB_o (show 0 ≤ 0 ∧ 0 ≤ 2000 from ⟨by omega, by omega⟩)
      have fr_o46 : Fr [(39, 9999)] i_o o46 := by rw [e_o46]; exact Fr.s1 fr_o rfl
      have g0_32_o46 : o46.1 0 32 = o.1 0 32 := by rw [e_o46]; rfl
      refine T_some ?_
      show (BoxM o46 ∧ (Fr [(39, 9999)] i_o o46) ∧ (0 ≤ (x4 + 1) ∧ (x4 + 1) ≤ 64)) ∧ (64 - (x4 + 1)).toNat < (64 - x4).toNat
      exact ⟨⟨hB_o46, fr_o46, (by omega)⟩, by omega⟩
    ·
      refine T_qB (t_X12_costOf o x4 x3 hB_o (by omega) (by omega) (by assumption) (by omega)) (fun r49 hc_r49 hp6 => ?_)
      replace hp6 : (0 ≤ r49 ∧ r49 ≤ 2000) := hp6
      unfold b_X12_line_175
      refine T_qIn ⟨by omega, by omega⟩ ?_
      refine T_qNm (fun o46 e_o46 => ?_)
      have hB_o46 : BoxM o46 := by rw [e_o46]; exact Box.s1 hB_o (show 0 ≤ r49 ∧ r49 ≤ 2000 from ⟨by omega, by omega⟩)
      have fr_o46 : Fr [(39, 9999)] i_o o46 := by rw [e_o46]; exact Fr.s1 fr_o rfl
      have g0_32_o46 : o46.1 0 32 = o.1 0 32 := by rw [e_o46]; rfl
      refine T_some ?_
      show (BoxM o46 ∧ (Fr [(39, 9999)] i_o o46) ∧ (0 ≤ (x4 + 1) ∧ (x4 + 1) ≤ 64)) ∧ (64 - (x4 + 1)).toNat < (64 - x4).toNat
      exact ⟨⟨hB_o46, fr_o46, (by omega)⟩, by omega⟩
  ·
    refine T_some ?_
    show BoxM o ∧ (Fr [(39, 9999)] i_o o)
    exact ⟨hB_o, fr_o⟩
set_option maxRecDepth 20000 in
set_option maxHeartbeats 1000000 in
theorem ul_X12_line_292 (o : OO) (x2 : Int) (x4 : Int) (x5 : Int) (x6 : Int) (x7 : Int) (i_x8 : Int) (i_x9 : Int) (i_x10 : Int) (hB_o : BoxM o) (k0 : 0 ≤ x4 ∧ x4 ≤ 9999) (k1 : 0 ≤ x6 ∧ x6 ≤ 63) (k2 : 0 ≤ x7 ∧ x7 ≤ 4) (k3 : FEX o x6 x7 x4) (v0 : 0 ≤ i_x10 ∧ i_x10 ≤ 4) (v1 : -9 ≤ i_x8 ∧ i_x8 ≤ 63) (v2 : (i_x8 = -9 ∧ NFT o x6 x7 x4 i_x10) ∨ FD o x6 x7 x4 i_x8 i_x9) : T (loopW (fun s => l_X12_line_292 o x2 x4 x5 x6 x7 s.1 s.2.1 s.2.2) (i_x8, i_x9, i_x10)) (fun r => (FD o x6 x7 x4 r.1 r.2)) := by
  refine T_loop (fun s => (0 ≤ s.2.2 ∧ s.2.2 ≤ 4) ∧ (-9 ≤ s.1 ∧ s.1 ≤ 63) ∧ ((s.1 = -9 ∧ NFT o x6 x7 x4 s.2.2) ∨ FD o x6 x7 x4 s.1 s.2.1)) (fun s => (4 - s.2.2).toNat) ⟨v0, v1, v2⟩ (fun s hs => ?_)
  obtain ⟨x8, x9, x10⟩ := s
  replace hs : (0 ≤ x10 ∧ x10 ≤ 4) ∧ (-9 ≤ x8 ∧ x8 ≤ 63) ∧ ((x8 = -9 ∧ NFT o x6 x7 x4 x10) ∨ FD o x6 x7 x4 x8 x9) := hs
  obtain ⟨w0, w1, w2⟩ := hs
  have g0_32_o := bM_0_32 hB_o
  have fd1 : FD o x6 x7 x4 x8 x9 → 0 ≤ x8 := fun q => q.1
  show T (l_X12_line_292 o x2 x4 x5 x6 x7 x8 x9 x10) _
  unfold l_X12_line_292
  refine T_qLt ⟨by omega, by omega⟩ ⟨by decide, by decide⟩ (fun h7 => ?_) (fun h7 => ?_)
  ·
    refine T_qLt ⟨by omega, by omega⟩ ⟨by decide, by decide⟩ (fun h8 => ?_) (fun h8 => ?_)
    ·
      refine T_qB (t_X12_beside x6 x10 (by omega) (by omega)) (fun r12 hc_r12 hp9 => ?_)
      replace hp9 : (r12 = -9 ∨ (0 ≤ r12 ∧ r12 ≤ 63 ∧ (x10 = 0 ∧ r12 = x6 - 8 ∨ x10 = 1 ∧ r12 = x6 - 1 ∨ x10 = 2 ∧ r12 = x6 + 1 ∨ x10 = 3 ∧ r12 = x6 + 8))) ∧ (r12 = bsd x6 x10) := hp9
      have hps_hp9 := hp9
      obtain ⟨hp9_0, hp9_1⟩ := hps_hp9
      replace hp9 := hid hp9
      have hq12 := hp9_1
      refine T_qB (t_X12_leads o x6 r12 x4 hB_o (by omega) (by omega) (by omega)) (fun r14 hc_r14 hp10 => ?_)
      replace hp10 : ((r14 = 1 ∧ 0 ≤ r12) ∨ r14 = 0) := hp10
      have ld8 : ¬ r14 = 0 → LD o x6 r12 x4 := fun e => ⟨r14, hc_r14, e⟩
      refine T_qEq ⟨by omega, by omega⟩ ⟨by decide, by decide⟩ (fun h11 => ?_) (fun h11 => ?_)
      ·
        unfold b_X12_line_378
        refine T_some ?_
        show ((0 ≤ (x10 + 1) ∧ (x10 + 1) ≤ 4) ∧ (-9 ≤ x8 ∧ x8 ≤ 63) ∧ ((x8 = -9 ∧ NFT o x6 x7 x4 (x10 + 1)) ∨ FD o x6 x7 x4 x8 x9)) ∧ (4 - (x10 + 1)).toNat < (4 - x10).toNat
        exact ⟨⟨(by omega), (by omega), (by first | exact Or.inl ⟨rfl, NFT_0⟩ | exact w2.elim (fun q => Or.inl ⟨q.1, NFT_s q.2 (FIT_no1 hq12 hc_r14 (by omega))⟩) (fun q => absurd (fd1 q) (by omega)) | exact w2.elim (fun q => Or.inl ⟨q.1, NFT_s q.2 (FIT_no2 hq12 (by omega))⟩) (fun q => absurd (fd1 q) (by omega)) | exact w2.elim (fun q => Or.inl ⟨q.1, NFT_s q.2 (FIT_no3 hq12 (by omega))⟩) (fun q => absurd (fd1 q) (by omega)) | exact Or.inr ⟨by omega, by omega, by omega, by omega, hq12, by rw [← hq12]; exact ld8 (by omega), by rw [← hq12]; unfold FN; omega, by rw [← hq12]; omega⟩)⟩, by omega⟩
      ·
        refine T_qIn ⟨by omega, by omega⟩ ?_
        refine T_qNm (fun n17 e_n17 => ?_)
        have b_n17 : 0 ≤ n17 ∧ n17 ≤ 100000000 := by rw [e_n17]; exact bM_38 hB_o _
        refine T_qLt ⟨by omega, by omega⟩ ⟨by decide, by decide⟩ (fun h12 => ?_) (fun h12 => ?_)
        ·
          refine T_qB (t_X12_goOn o x6 x7 x10 r12 hB_o (by omega) (by omega) (by omega) (by omega)) (fun r18 hc_r18 hp13 => ?_)
          replace hp13 : (0 ≤ r18 ∧ r18 ≤ 100100000) ∧ (r18 = GV o x6 x7 x10 r12) := hp13
          have hps_hp13 := hp13
          obtain ⟨hp13_0, hp13_1⟩ := hps_hp13
          replace hp13 := hid hp13
          refine T_qIn ⟨by omega, by omega⟩ ?_
          refine T_qNm (fun n21 e_n21 => ?_)
          have b_n21 : 0 ≤ n21 ∧ n21 ≤ 100000000 := by rw [e_n21]; exact bM_38 hB_o _
          refine T_qEq ⟨by omega, by omega⟩ ⟨by omega, by omega⟩ (fun h14 => ?_) (fun h14 => ?_)
          ·
            unfold b_X12_line_378
            refine T_some ?_
            show ((0 ≤ (x10 + 1) ∧ (x10 + 1) ≤ 4) ∧ (-9 ≤ r12 ∧ r12 ≤ 63) ∧ ((r12 = -9 ∧ NFT o x6 x7 x4 (x10 + 1)) ∨ FD o x6 x7 x4 r12 x10)) ∧ (4 - (x10 + 1)).toNat < (4 - x10).toNat
            exact ⟨⟨(by omega), (by omega), (by first | exact Or.inl ⟨rfl, NFT_0⟩ | exact w2.elim (fun q => Or.inl ⟨q.1, NFT_s q.2 (FIT_no1 hq12 hc_r14 (by omega))⟩) (fun q => absurd (fd1 q) (by omega)) | exact w2.elim (fun q => Or.inl ⟨q.1, NFT_s q.2 (FIT_no2 hq12 (by omega))⟩) (fun q => absurd (fd1 q) (by omega)) | exact w2.elim (fun q => Or.inl ⟨q.1, NFT_s q.2 (FIT_no3 hq12 (by omega))⟩) (fun q => absurd (fd1 q) (by omega)) | exact Or.inr ⟨by omega, by omega, by omega, by omega, hq12, by rw [← hq12]; exact ld8 (by omega), by rw [← hq12]; unfold FN; omega, by rw [← hq12]; omega⟩)⟩, by omega⟩
          ·
            unfold b_X12_line_378
            refine T_some ?_
            show ((0 ≤ (x10 + 1) ∧ (x10 + 1) ≤ 4) ∧ (-9 ≤ x8 ∧ x8 ≤ 63) ∧ ((x8 = -9 ∧ NFT o x6 x7 x4 (x10 + 1)) ∨ FD o x6 x7 x4 x8 x9)) ∧ (4 - (x10 + 1)).toNat < (4 - x10).toNat
            exact ⟨⟨(by omega), (by omega), (by first | exact Or.inl ⟨rfl, NFT_0⟩ | exact w2.elim (fun q => Or.inl ⟨q.1, NFT_s q.2 (FIT_no1 hq12 hc_r14 (by omega))⟩) (fun q => absurd (fd1 q) (by omega)) | exact w2.elim (fun q => Or.inl ⟨q.1, NFT_s q.2 (FIT_no2 hq12 (by omega))⟩) (fun q => absurd (fd1 q) (by omega)) | exact w2.elim (fun q => Or.inl ⟨q.1, NFT_s q.2 (FIT_no3 hq12 (by omega))⟩) (fun q => absurd (fd1 q) (by omega)) | exact Or.inr ⟨by omega, by omega, by omega, by omega, hq12, by rw [← hq12]; exact ld8 (by omega), by rw [← hq12]; unfold FN; omega, by rw [← hq12]; omega⟩)⟩, by omega⟩
        ·
          unfold b_X12_line_378
          refine T_some ?_
          show ((0 ≤ (x10 + 1) ∧ (x10 + 1) ≤ 4) ∧ (-9 ≤ x8 ∧ x8 ≤ 63) ∧ ((x8 = -9 ∧ NFT o x6 x7 x4 (x10 + 1)) ∨ FD o x6 x7 x4 x8 x9)) ∧ (4 - (x10 + 1)).toNat < (4 - x10).toNat
          exact ⟨⟨(by omega), (by omega), (by first | exact Or.inl ⟨rfl, NFT_0⟩ | exact w2.elim (fun q => Or.inl ⟨q.1, NFT_s q.2 (FIT_no1 hq12 hc_r14 (by omega))⟩) (fun q => absurd (fd1 q) (by omega)) | exact w2.elim (fun q => Or.inl ⟨q.1, NFT_s q.2 (FIT_no2 hq12 (by omega))⟩) (fun q => absurd (fd1 q) (by omega)) | exact w2.elim (fun q => Or.inl ⟨q.1, NFT_s q.2 (FIT_no3 hq12 (by omega))⟩) (fun q => absurd (fd1 q) (by omega)) | exact Or.inr ⟨by omega, by omega, by omega, by omega, hq12, by rw [← hq12]; exact ld8 (by omega), by rw [← hq12]; unfold FN; omega, by rw [← hq12]; omega⟩)⟩, by omega⟩
    ·
      refine T_some ?_
      show (FD o x6 x7 x4 x8 x9)
      exact (by first | exact w2.elim (fun q => absurd (NFT_no q.2 (by omega) (by assumption)) id) id | exact w2.elim (fun q => absurd q.1 (by omega)) id)
  ·
    refine T_some ?_
    show (FD o x6 x7 x4 x8 x9)
    exact (by first | exact w2.elim (fun q => absurd (NFT_no q.2 (by omega) (by assumption)) id) id | exact w2.elim (fun q => absurd q.1 (by omega)) id)
set_option maxRecDepth 20000 in
set_option maxHeartbeats 1000000 in
theorem ul_X12_line_276 (x2 : Int) (x4 : Int) (x5 : Int) (i_o : OO) (i_x6 : Int) (i_x7 : Int) (hB_i_o : BoxM i_o) (k0 : 0 ≤ x2 ∧ x2 ≤ 63) (k1 : 0 ≤ x4 ∧ x4 ≤ 9999) (k2 : 0 ≤ x5 ∧ x5 ≤ 23) (k3 : SBI i_o x2 x4) (k4 : B1 i_o x2 x4) (v0 : 0 ≤ i_x6 ∧ i_x6 ≤ 63) (v1 : 0 ≤ i_x7 ∧ i_x7 ≤ 4) (v2 : FN i_o (5 * i_x6 + i_x7)) (v3 : PW i_o x5 i_x6 i_x7) (v4 : GTt i_o i_x6 i_x7) : T (loopW (fun s => l_X12_line_276 x2 x4 x5 s.1 s.2.1 s.2.2) (i_o, i_x6, i_x7)) (fun r => BoxM r ∧ (Fr [(30, 9999), (31, 9999)] i_o r)) := by
  have fr_i_o : Fr [(30, 9999), (31, 9999)] i_o i_o := Fr.rf
  refine T_loop (fun s => BoxM s.1 ∧ (Fr [(30, 9999), (31, 9999)] i_o s.1) ∧ (0 ≤ s.2.1 ∧ s.2.1 ≤ 63) ∧ (0 ≤ s.2.2 ∧ s.2.2 ≤ 4) ∧ (FN s.1 (5 * s.2.1 + s.2.2)) ∧ (PW s.1 x5 s.2.1 s.2.2) ∧ (GTt s.1 s.2.1 s.2.2)) (fun s => (65 - s.1.1 30 x5.toNat).toNat) ⟨hB_i_o, fr_i_o, v0, v1, v2, v3, v4⟩ (fun s hs => ?_)
  obtain ⟨o, x6, x7⟩ := s
  replace hs : BoxM o ∧ (Fr [(30, 9999), (31, 9999)] i_o o) ∧ (0 ≤ x6 ∧ x6 ≤ 63) ∧ (0 ≤ x7 ∧ x7 ≤ 4) ∧ (FN o (5 * x6 + x7)) ∧ (PW o x5 x6 x7) ∧ (GTt o x6 x7) := hs
  obtain ⟨hB_o, fr_o, w0, w1, w2, w3, w4⟩ := hs
  have g0_32_i := bM_0_32 hB_i_o
  have g0_32_o : o.1 0 32 = i_o.1 0 32 := fr_o.1 0 32 rfl
  have u9 : U38 i_o o := U38.of fr_o (fun _ => rfl) (fun _ => rfl) (fun _ => rfl) (fun k => Int.le_of_eq (fr_o.1 38 k rfl))
  have sb9 : SBI o x2 x4 := SBI.cg u9 (fun k => fr_o.1 38 k rfl) (by assumption)
  have b19 : B1 o x2 x4 := B1.cg u9 (fun k => fr_o.1 38 k rfl) (by assumption)
  have pw1 := w3.1
  have pw2 := w3.2.1
  show T (l_X12_line_276 x2 x4 x5 o x6 x7) _
  unfold l_X12_line_276
  refine T_qEq ⟨by omega, by omega⟩ ⟨by omega, by omega⟩ (fun h15 => ?_) (fun h15 => ?_)
  ·
    refine T_some ?_
    show BoxM o ∧ (Fr [(30, 9999), (31, 9999)] i_o o)
    exact ⟨hB_o, fr_o⟩
  ·
    unfold e_X12_line_292
    refine T_qB (ul_X12_line_292 o x2 x4 x5 x6 x7 (-9) 0 0 hB_o (by omega) (by omega) (by omega) (FEX_of b19 sb9 w0 (by omega) w1 w2) (by omega) (by omega) (by first | exact Or.inl ⟨rfl, NFT_0⟩ | exact w2.elim (fun q => Or.inl ⟨q.1, NFT_s q.2 (FIT_no1 hq12 hc_r14 (by omega))⟩) (fun q => absurd (fd1 q) (by omega)) | exact w2.elim (fun q => Or.inl ⟨q.1, NFT_s q.2 (FIT_no2 hq12 (by omega))⟩) (fun q => absurd (fd1 q) (by omega)) | exact w2.elim (fun q => Or.inl ⟨q.1, NFT_s q.2 (FIT_no3 hq12 (by omega))⟩) (fun q => absurd (fd1 q) (by omega)) | exact Or.inr ⟨by omega, by omega, by omega, by omega, hq12, by rw [← hq12]; exact ld8 (by omega), by rw [← hq12]; unfold FN; omega, by rw [← hq12]; omega⟩)) (fun r16 hc_r16 hp17 => ?_)
    obtain ⟨x8_18, x9_19⟩ := r16
    replace hp17 : (FD o x6 x7 x4 x8_18 x9_19) := hp17
    show T (b_X12_line_384 o x2 x4 x5 x8_18 x9_19) _
    have fd9 : FD o x6 x7 x4 x8_18 x9_19 := hp17
    have pn9 := PW_next hB_o b19 sb9 (by omega) w0 w1 (by omega) w4 fd9 w3
    have fd0 := fd9.1
    have fd1 := fd9.2.1
    have fd2 := fd9.2.2.1
    have fd3 := fd9.2.2.2.1
    have pn1 := pn9.1
    unfold b_X12_line_384
    refine T_qIn ⟨by omega, by omega⟩ ?_
    refine T_qNm (fun n5 e_n5 => ?_)
    have b_n5 : 0 ≤ n5 ∧ n5 ≤ 64 := by rw [e_n5]; exact bM_30 hB_o _
    refine T_qIn ⟨by omega, by omega⟩ ?_
    refine T_qNm (fun o7 e_o7 => ?_)
    have hB_o7 : BoxM o7 := by rw [e_o7]; exact Box.s1 hB_o (show 0 ≤ x8_18 ∧ x8_18 ≤ 63 from ⟨by omega, by omega⟩)
    have fr_o7 : Fr [(30, 9999), (31, 9999)] i_o o7 := by rw [e_o7]; exact Fr.s1 fr_o rfl
    have g0_32_o7 : o7.1 0 32 = o.1 0 32 := by rw [e_o7]; rfl
    refine T_qIn ⟨by omega, by omega⟩ ?_
    refine T_qNm (fun n9 e_n9 => ?_)
    have b_n9 : 0 ≤ n9 ∧ n9 ≤ 64 := by rw [e_n9]; exact bM_30 hB_o7 _
    have h95 : n9 = n5 := by rw [e_n9, e_o7, e_n5]; rfl
    refine T_qIn ⟨by omega, by omega⟩ ?_
    refine T_qNm (fun o11 e_o11 => ?_)
    have hB_o11 : BoxM o11 := by rw [e_o11]; exact Box.s1 hB_o7 (show 0 ≤ (n9 + 1) ∧ (n9 + 1) ≤ 64 from ⟨by omega, by omega⟩)
    have fr_o11 : Fr [(30, 9999), (31, 9999)] i_o o11 := by rw [e_o11]; exact Fr.s1 fr_o7 rfl
    have g0_32_o11 : o11.1 0 32 = o7.1 0 32 := by rw [e_o11]; rfl
    have pn11 : PW o11 x5 x8_18 x9_19 := by have q9 := pn9.2; rw [e_o11, e_o7]; rw [e_n9, e_o7]; rw [e_n5]; exact q9
    have s11 : ∀ k, o11.1 38 k = o.1 38 k := fun k => by rw [e_o11, e_o7]; rfl
    have fn11 : FN o11 (5 * x8_18 + x9_19) := by unfold FN; rw [s11]; have q9 := fd9.2.2.2.2.2.2.1; rw [← fd9.2.2.2.2.1] at q9; exact q9
    have gg11 : GTt o11 x8_18 x9_19 := by have q9 := good_on hB_o b19 sb9 w0 w1 (by omega) w4 fd9; intro q; show o11.1 38 _ < o11.1 38 _ + 5; rw [s11, s11]; exact q9 q
    have n11 : o11.1 30 x5.toNat = o.1 30 x5.toNat + 1 := by rw [e_o11, st1_eq, e_n9, e_o7]; rfl
    refine T_some ?_
    show (BoxM o11 ∧ (Fr [(30, 9999), (31, 9999)] i_o o11) ∧ (0 ≤ x8_18 ∧ x8_18 ≤ 63) ∧ (0 ≤ x9_19 ∧ x9_19 ≤ 4) ∧ (FN o11 (5 * x8_18 + x9_19)) ∧ (PW o11 x5 x8_18 x9_19) ∧ (GTt o11 x8_18 x9_19)) ∧ (65 - o11.1 30 x5.toNat).toNat < (65 - o.1 30 x5.toNat).toNat
    exact ⟨⟨hB_o11, fr_o11, (by omega), (by omega), (by assumption), (by assumption), (by assumption)⟩, by omega⟩
set_option maxRecDepth 20000 in
set_option maxHeartbeats 1000000 in
theorem u_X12_line (o : OO) (x1 : Int) (x2 : Int) (x3 : Int) (hB_o : BoxM o) (k0 : inR x1) (k1 : inR x2) (k2 : inR x3) : T (s_X12_line o x1 x2 x3) (fun v => BoxM v.2 ∧ (Fr [(0, 0), (0, 32), (1, 9999), (25, 9999), (26, 9999), (27, 9999), (28, 9999), (29, 9999), (30, 9999), (31, 9999), (38, 9999), (39, 9999)] o v.2)) := by
  have fr_o : Fr [(0, 0), (0, 32), (1, 9999), (25, 9999), (26, 9999), (27, 9999), (28, 9999), (29, 9999), (30, 9999), (31, 9999), (38, 9999), (39, 9999)] o o := Fr.rf
  have g0_32_o := bM_0_32 hB_o
  unfold s_X12_line
  refine T_qB (t_X12_isCell x1 (by omega)) (fun r59 hc_r59 hp20 => ?_)
  replace hp20 : ((r59 = 1 ∧ 0 ≤ x1 ∧ x1 ≤ 63) ∨ (r59 = 0 ∧ (x1 < 0 ∨ 63 < x1))) := hp20
  refine T_qEq ⟨by omega, by omega⟩ ⟨by decide, by decide⟩ (fun h21 => ?_) (fun h21 => ?_)
  ·
    unfold b_X12_line_26
    refine T_some ?_
    show BoxM o ∧ (Fr [(0, 0), (0, 32), (1, 9999), (25, 9999), (26, 9999), (27, 9999), (28, 9999), (29, 9999), (30, 9999), (31, 9999), (38, 9999), (39, 9999)] o o)
    exact ⟨hB_o, fr_o⟩
  ·
    refine T_qB (t_X12_isCell x2 (by omega)) (fun r61 hc_r61 hp22 => ?_)
    replace hp22 : ((r61 = 1 ∧ 0 ≤ x2 ∧ x2 ≤ 63) ∨ (r61 = 0 ∧ (x2 < 0 ∨ 63 < x2))) := hp22
    refine T_qEq ⟨by omega, by omega⟩ ⟨by decide, by decide⟩ (fun h23 => ?_) (fun h23 => ?_)
    ·
      unfold b_X12_line_26
      refine T_some ?_
      show BoxM o ∧ (Fr [(0, 0), (0, 32), (1, 9999), (25, 9999), (26, 9999), (27, 9999), (28, 9999), (29, 9999), (30, 9999), (31, 9999), (38, 9999), (39, 9999)] o o)
      exact ⟨hB_o, fr_o⟩
    ·
      refine T_qEq ⟨by omega, by omega⟩ ⟨by omega, by omega⟩ (fun h24 => ?_) (fun h24 => ?_)
      ·
        unfold b_X12_line_26
        refine T_some ?_
        show BoxM o ∧ (Fr [(0, 0), (0, 32), (1, 9999), (25, 9999), (26, 9999), (27, 9999), (28, 9999), (29, 9999), (30, 9999), (31, 9999), (38, 9999), (39, 9999)] o o)
        exact ⟨hB_o, fr_o⟩
      ·
        refine T_qB (t_X12_isRow x3 (by omega)) (fun r63 hc_r63 hp25 => ?_)
        replace hp25 : ((r63 = 1 ∧ 0 ≤ x3 ∧ x3 ≤ 5) ∨ (r63 = 0 ∧ (x3 < 0 ∨ 5 < x3))) := hp25
        refine T_qEq ⟨by omega, by omega⟩ ⟨by decide, by decide⟩ (fun h26 => ?_) (fun h26 => ?_)
        ·
          unfold b_X12_line_26
          refine T_some ?_
          show BoxM o ∧ (Fr [(0, 0), (0, 32), (1, 9999), (25, 9999), (26, 9999), (27, 9999), (28, 9999), (29, 9999), (30, 9999), (31, 9999), (38, 9999), (39, 9999)] o o)
          exact ⟨hB_o, fr_o⟩
        ·
          refine T_qEq ⟨by omega, by omega⟩ ⟨by decide, by decide⟩ (fun h27 => ?_) (fun h27 => ?_)
          ·
            refine T_some ?_
            show BoxM o ∧ (Fr [(0, 0), (0, 32), (1, 9999), (25, 9999), (26, 9999), (27, 9999), (28, 9999), (29, 9999), (30, 9999), (31, 9999), (38, 9999), (39, 9999)] o o)
            exact ⟨hB_o, fr_o⟩
          ·
            refine T_qIn ⟨by omega, by omega⟩ ?_
            refine T_qNm (fun n66 e_n66 => ?_)
            have b_n66 : -9 ≤ n66 ∧ n66 ≤ 40 := by rw [e_n66]; exact bM_2 hB_o _
            refine T_qLt ⟨by omega, by omega⟩ ⟨by decide, by decide⟩ (fun h28 => ?_) (fun h28 => ?_)
            ·
              refine T_qB2 (t_X12_meets o 1 hB_o (by omega)) (fun r72 o74 hc_r72 hp29 => ?_)
              replace hp29 : BoxM o74 ∧ (Fr [(0, 0), (1, 9999)] o o74) ∧ (r72 = -3) := hp29
              obtain ⟨hB_o74, fc_o74, hp29⟩ := hp29
              have fr_o74 : Fr [(0, 0), (0, 32), (1, 9999), (25, 9999), (26, 9999), (27, 9999), (28, 9999), (29, 9999), (30, 9999), (31, 9999), (38, 9999), (39, 9999)] o o74 := Fr.tr fr_o fc_o74 rfl
              have g0_32_o74 : o74.1 0 32 = o.1 0 32 := fc_o74.1 0 32 rfl
              refine T_some ?_
              show BoxM o74 ∧ (Fr [(0, 0), (0, 32), (1, 9999), (25, 9999), (26, 9999), (27, 9999), (28, 9999), (29, 9999), (30, 9999), (31, 9999), (38, 9999), (39, 9999)] o o74)
              exact ⟨hB_o74, fr_o74⟩
            ·
              refine T_qIn ⟨by omega, by omega⟩ ?_
              refine T_qNm (fun n68 e_n68 => ?_)
              have b_n68 : -9 ≤ n68 ∧ n68 ≤ 40 := by rw [e_n68]; exact bM_2 hB_o _
              refine T_qEq ⟨by omega, by omega⟩ ⟨by decide, by decide⟩ (fun h30 => ?_) (fun h30 => ?_)
              ·
                unfold e_X12_line_74
                refine T_qB (ul_X12_line_74 o x1 x2 x3 0 hB_o (by omega) (by omega) (by first | assumption | exact R4_0 | exact R4_s w1 (by omega) | (have q9 := w1; rwa [show x4 = 4 by omega] at q9))) (fun r31 hc_r31 hp32 => ?_)
                rcases r31 with r31 | r31
                ·
                  show T (b_X12_line_102 o) _
                  unfold b_X12_line_102
                  refine T_qB2 (t_X12_meets o 3 hB_o (by omega)) (fun r1 o3 hc_r1 hp33 => ?_)
                  replace hp33 : BoxM o3 ∧ (Fr [(0, 0), (1, 9999)] o o3) ∧ (r1 = -3) := hp33
                  obtain ⟨hB_o3, fc_o3, hp33⟩ := hp33
                  have fr_o3 : Fr [(0, 0), (0, 32), (1, 9999), (25, 9999), (26, 9999), (27, 9999), (28, 9999), (29, 9999), (30, 9999), (31, 9999), (38, 9999), (39, 9999)] o o3 := Fr.tr fr_o fc_o3 rfl
                  have g0_32_o3 : o3.1 0 32 = o.1 0 32 := fc_o3.1 0 32 rfl
                  refine T_some ?_
                  show BoxM o3 ∧ (Fr [(0, 0), (0, 32), (1, 9999), (25, 9999), (26, 9999), (27, 9999), (28, 9999), (29, 9999), (30, 9999), (31, 9999), (38, 9999), (39, 9999)] o o3)
                  exact ⟨hB_o3, fr_o3⟩
                ·
                  replace hp32 : (R4 o x3 4) := hp32
                  show T (b_X12_line_114 o x1 x2 x3) _
                  unfold b_X12_line_114
                  refine T_qIn ⟨by omega, by omega⟩ ?_
                  refine T_qNm (fun n52 e_n52 => ?_)
                  have b_n52 : 0 ≤ n52 ∧ n52 ≤ 4 := by rw [e_n52]; exact bM_11 hB_o _
                  refine T_qEq ⟨by omega, by omega⟩ ⟨by decide, by decide⟩ (fun h34 => ?_) (fun h34 => ?_)
                  ·
                    unfold b_X12_line_134
                    refine T_some ?_
                    show BoxM o ∧ (Fr [(0, 0), (0, 32), (1, 9999), (25, 9999), (26, 9999), (27, 9999), (28, 9999), (29, 9999), (30, 9999), (31, 9999), (38, 9999), (39, 9999)] o o)
                    exact ⟨hB_o, fr_o⟩
                  ·
                    refine T_qIn ⟨by omega, by omega⟩ ?_
                    refine T_qNm (fun n54 e_n54 => ?_)
                    have b_n54 : 0 ≤ n54 ∧ n54 ≤ 4 := by rw [e_n54]; exact bM_11 hB_o _
                    refine T_qEq ⟨by omega, by omega⟩ ⟨by decide, by decide⟩ (fun h35 => ?_) (fun h35 => ?_)
                    ·
                      unfold b_X12_line_134
                      refine T_some ?_
                      show BoxM o ∧ (Fr [(0, 0), (0, 32), (1, 9999), (25, 9999), (26, 9999), (27, 9999), (28, 9999), (29, 9999), (30, 9999), (31, 9999), (38, 9999), (39, 9999)] o o)
                      exact ⟨hB_o, fr_o⟩
                    ·
                      unfold e_X12_line_140
                      refine T_qB (ul_X12_line_140 x1 x2 x3 o 0 hB_o (by omega) (by first | assumption | exact R4_0 | exact R4_s w1 (by omega) | (have q9 := w1; rwa [show x4 = 4 by omega] at q9)) (by omega)) (fun r36 hc_r36 hp37 => ?_)
                      obtain ⟨o_38, q_o_38⟩ : ∃ q, q = r36 := ⟨_, rfl⟩
                      subst q_o_38
                      replace hp37 : BoxM o_38 ∧ (Fr [(39, 9999)] o o_38) := hp37
                      have hps_hp37 := hp37
                      obtain ⟨hp37_0, hp37_1⟩ := hps_hp37
                      obtain ⟨hB_o_38, fc_o_38⟩ := hp37
                      have fr_o_38 : Fr [(0, 0), (0, 32), (1, 9999), (25, 9999), (26, 9999), (27, 9999), (28, 9999), (29, 9999), (30, 9999), (31, 9999), (38, 9999), (39, 9999)] o o_38 := Fr.tr fr_o fc_o_38 rfl
                      have g0_32_o_38 : o_38.1 0 32 = o.1 0 32 := fc_o_38.1 0 32 rfl
                      show T (b_X12_line_182 o_38 x1 x2) _
                      unfold b_X12_line_182
                      refine T_qB (t_X12_nowInForce o_38 0 hB_o_38 (by omega)) (fun r22 hc_r22 hp39 => ?_)
                      replace hp39 : (0 ≤ r22 ∧ r22 ≤ 9999) := hp39
                      refine T_qB (t_X12_setLeft o_38 x2 r22 hB_o_38 (by omega) (by omega)) (fun o26 hc_o26 hp40 => ?_)
                      replace hp40 : BoxM o26 ∧ (Fr [(38, 9999)] o_38 o26) ∧ (SBI o26 x2 r22) ∧ (B1 o26 x2 r22) := hp40
                      obtain ⟨hB_o26, fc_o26, hp40⟩ := hp40
                      have fr_o26 : Fr [(0, 0), (0, 32), (1, 9999), (25, 9999), (26, 9999), (27, 9999), (28, 9999), (29, 9999), (30, 9999), (31, 9999), (38, 9999), (39, 9999)] o o26 := Fr.tr fr_o_38 fc_o26 rfl
                      have g0_32_o26 : o26.1 0 32 = o_38.1 0 32 := fc_o26.1 0 32 rfl
                      have sb26 : SBI o26 x2 r22 := hp40.1
                      have b126 : B1 o26 x2 r22 := hp40.2
                      have cfu := (CG_le (f := fun k => 99999999 - o26.1 38 k) (n := 320) (by omega)).1
                      have b328 := sb26.2.2 (5 * x1 + 4).toNat (by omega)
                      have cf9 : CF o26 = CG (fun k => 99999999 - o26.1 38 k) 320 := rfl
                      refine T_qIn ⟨by omega, by omega⟩ ?_
                      refine T_qNm (fun n28 e_n28 => ?_)
                      have b_n28 : 0 ≤ n28 ∧ n28 ≤ 100000000 := by rw [e_n28]; exact bM_38 hB_o26 _
                      refine T_qEq ⟨by omega, by omega⟩ ⟨by decide, by decide⟩ (fun h41 => ?_) (fun h41 => ?_)
                      ·
                        refine T_qB2 (t_X12_meets o26 1 hB_o26 (by omega)) (fun r42 o44 hc_r42 hp42 => ?_)
                        replace hp42 : BoxM o44 ∧ (Fr [(0, 0), (1, 9999)] o26 o44) ∧ (r42 = -3) := hp42
                        obtain ⟨hB_o44, fc_o44, hp42⟩ := hp42
                        have fr_o44 : Fr [(0, 0), (0, 32), (1, 9999), (25, 9999), (26, 9999), (27, 9999), (28, 9999), (29, 9999), (30, 9999), (31, 9999), (38, 9999), (39, 9999)] o o44 := Fr.tr fr_o26 fc_o44 rfl
                        have g0_32_o44 : o44.1 0 32 = o26.1 0 32 := fc_o44.1 0 32 rfl
                        refine T_some ?_
                        show BoxM o44 ∧ (Fr [(0, 0), (0, 32), (1, 9999), (25, 9999), (26, 9999), (27, 9999), (28, 9999), (29, 9999), (30, 9999), (31, 9999), (38, 9999), (39, 9999)] o o44)
                        exact ⟨hB_o44, fr_o44⟩
                      ·
                        refine T_qB2 (t_X12_enter o26 1 (-9) hB_o26 (by omega) (by omega) (by omega)) (fun r29 o31 hc_r29 hp43 => ?_)
                        replace hp43 : BoxM o31 ∧ (Fr [(0, 32), (25, 9999), (26, 9999), (27, 9999), (29, 9999), (30, 9999)] o26 o31) ∧ (r29 = o26.1 0 32) ∧ (o31.1 0 32 = o26.1 0 32 + 1) := hp43
                        obtain ⟨hB_o31, fc_o31, hp43⟩ := hp43
                        have fr_o31 : Fr [(0, 0), (0, 32), (1, 9999), (25, 9999), (26, 9999), (27, 9999), (28, 9999), (29, 9999), (30, 9999), (31, 9999), (38, 9999), (39, 9999)] o o31 := Fr.tr fr_o26 fc_o31 rfl
                        have g0_32_o31 := bM_0_32 hB_o31
                        have e38 := fc_o31.1 38 (5 * x1 + 4).toNat rfl
                        have u31 : U38 o26 o31 := U38.of fc_o31 (fun _ => rfl) (fun _ => rfl) (fun _ => rfl) (fun k => Int.le_of_eq (fc_o31.1 38 k rfl))
                        have b329 := b328 (by omega)
                        refine T_qIn ⟨by omega, by omega⟩ ?_
                        refine T_qNm (fun n33 e_n33 => ?_)
                        have b_n33 : 0 ≤ n33 ∧ n33 ≤ 2000 := by rw [e_n33]; exact bM_39 hB_o31 _
                        refine T_qIn ⟨by omega, by omega⟩ ?_
                        refine T_qNm (fun n35 e_n35 => ?_)
                        have b_n35 : 0 ≤ n35 ∧ n35 ≤ 100000000 := by rw [e_n35]; exact bM_38 hB_o31 _
                        refine T_qIn ⟨by omega, by omega⟩ ?_
                        refine T_qNm (fun o37 e_o37 => ?_)
                        have hB_o37 : BoxM o37 := by rw [e_o37]; exact Box.s1 hB_o31 (show 0 ≤ (n33 + n35) ∧ (n33 + n35) ≤ 1000000 from ⟨by omega, by omega⟩)
                        have fr_o37 : Fr [(0, 0), (0, 32), (1, 9999), (25, 9999), (26, 9999), (27, 9999), (28, 9999), (29, 9999), (30, 9999), (31, 9999), (38, 9999), (39, 9999)] o o37 := by rw [e_o37]; exact Fr.s1 fr_o31 rfl
                        have g0_32_o37 : o37.1 0 32 = o31.1 0 32 := by rw [e_o37]; rfl
                        refine T_qIn ⟨by omega, by omega⟩ ?_
                        refine T_qNm (fun o39 e_o39 => ?_)
                        have hB_o39 : BoxM o39 := by rw [e_o39]; exact Box.s1 hB_o37 (show 0 ≤ x1 ∧ x1 ≤ 63 from ⟨by omega, by omega⟩)
                        have fr_o39 : Fr [(0, 0), (0, 32), (1, 9999), (25, 9999), (26, 9999), (27, 9999), (28, 9999), (29, 9999), (30, 9999), (31, 9999), (38, 9999), (39, 9999)] o o39 := by rw [e_o39]; exact Fr.s1 fr_o37 rfl
                        have g0_32_o39 : o39.1 0 32 = o37.1 0 32 := by rw [e_o39]; rfl
                        refine T_qIn ⟨by omega, by omega⟩ ?_
                        refine T_qNm (fun o41 e_o41 => ?_)
                        have hB_o41 : BoxM o41 := by rw [e_o41]; exact Box.s1 hB_o39 (show 0 ≤ 1 ∧ 1 ≤ 64 from ⟨by omega, by omega⟩)
                        have fr_o41 : Fr [(0, 0), (0, 32), (1, 9999), (25, 9999), (26, 9999), (27, 9999), (28, 9999), (29, 9999), (30, 9999), (31, 9999), (38, 9999), (39, 9999)] o o41 := by rw [e_o41]; exact Fr.s1 fr_o39 rfl
                        have g0_32_o41 : o41.1 0 32 = o39.1 0 32 := by rw [e_o41]; rfl
                        have u41 : U38 o26 o41 := by rw [e_o41, e_o39, e_o37]; exact u31
                        have h41 : ∀ k, o41.1 38 k = o26.1 38 k := fun k => by rw [e_o41, e_o39, e_o37]; exact fc_o31.1 38 k rfl
                        have sb41 : SBI o41 x2 r22 := sb26.cg u41 h41
                        have b141 : B1 o41 x2 r22 := b126.cg u41 h41
                        have pw41 : PW o41 r29 x1 4 := PW_0 (by rw [e_o41]; exact st1_eq) (by rw [e_o41, e_o39]; show (st1 o37 31 (64 * r29).toNat x1).1 31 (64 * r29).toNat = x1; exact st1_eq)
                        have fn41 : FN o41 (5 * x1 + 4) := by unfold FN; rw [h41]; omega
                        have gg41 : GTt o41 x1 4 := fun q => absurd q (by decide)
                        unfold e_X12_line_276
                        refine T_qB (ul_X12_line_276 x2 r22 r29 o41 x1 4 hB_o41 (by omega) (by omega) (by omega) (by assumption) (by assumption) (by omega) (by omega) (by assumption) (by assumption) (by assumption)) (fun r44 hc_r44 hp45 => ?_)
                        obtain ⟨o_46, q_o_46⟩ : ∃ q, q = r44 := ⟨_, rfl⟩
                        subst q_o_46
                        replace hp45 : BoxM o_46 ∧ (Fr [(30, 9999), (31, 9999)] o41 o_46) := hp45
                        have hps_hp45 := hp45
                        obtain ⟨hp45_0, hp45_1⟩ := hps_hp45
                        obtain ⟨hB_o_46, fc_o_46⟩ := hp45
                        have fr_o_46 : Fr [(0, 0), (0, 32), (1, 9999), (25, 9999), (26, 9999), (27, 9999), (28, 9999), (29, 9999), (30, 9999), (31, 9999), (38, 9999), (39, 9999)] o o_46 := Fr.tr fr_o41 fc_o_46 rfl
                        have g0_32_o_46 : o_46.1 0 32 = o41.1 0 32 := fc_o_46.1 0 32 rfl
                        show T (b_X12_line_426 o_46 r29) _
                        unfold b_X12_line_426
                        refine T_some ?_
                        show BoxM o_46 ∧ (Fr [(0, 0), (0, 32), (1, 9999), (25, 9999), (26, 9999), (27, 9999), (28, 9999), (29, 9999), (30, 9999), (31, 9999), (38, 9999), (39, 9999)] o o_46)
                        exact ⟨hB_o_46, fr_o_46⟩
              ·
                refine T_qB2 (t_X12_meets o 5 hB_o (by omega)) (fun r69 o71 hc_r69 hp47 => ?_)
                replace hp47 : BoxM o71 ∧ (Fr [(0, 0), (1, 9999)] o o71) ∧ (r69 = -3) := hp47
                obtain ⟨hB_o71, fc_o71, hp47⟩ := hp47
                have fr_o71 : Fr [(0, 0), (0, 32), (1, 9999), (25, 9999), (26, 9999), (27, 9999), (28, 9999), (29, 9999), (30, 9999), (31, 9999), (38, 9999), (39, 9999)] o o71 := Fr.tr fr_o fc_o71 rfl
                have g0_32_o71 : o71.1 0 32 = o.1 0 32 := fc_o71.1 0 32 rfl
                refine T_some ?_
                show BoxM o71 ∧ (Fr [(0, 0), (0, 32), (1, 9999), (25, 9999), (26, 9999), (27, 9999), (28, 9999), (29, 9999), (30, 9999), (31, 9999), (38, 9999), (39, 9999)] o o71)
                exact ⟨hB_o71, fr_o71⟩
