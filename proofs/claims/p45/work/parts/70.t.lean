set_option maxRecDepth 20000 in
set_option maxHeartbeats 4000000 in
theorem tl_X12_whither_223 (x5 : Int) (x6 : Int) (i_o : OO) (i_x8 : Int) (hB_i_o : BoxM i_o) (k0 : INE i_o) (v0 : -9 ≤ i_x8 ∧ i_x8 ≤ 31) (v1 : i_x8 < 0 ∨ AL i_o i_x8) (v2 : PTR i_o) : T (loopW (fun s => l_X12_whither_223 x5 x6 s.1 s.2) (i_o, i_x8)) (fun r => BoxM r ∧ (Fr [(46, 9999)] i_o r) ∧ (PTR r)) := by
  have fr_i_o : Fr [(46, 9999)] i_o i_o := Fr.rf
  refine T_loop (fun s => BoxM s.1 ∧ (Fr [(46, 9999)] i_o s.1) ∧ (-9 ≤ s.2 ∧ s.2 ≤ 31) ∧ (s.2 < 0 ∨ AL s.1 s.2) ∧ (PTR s.1)) (fun s => LEN (i_o.1 51) s.2) (by exact ⟨hB_i_o, fr_i_o, v0, v1, v2⟩) (fun s hs => ?_)
  obtain ⟨o, x8⟩ := s
  replace hs : BoxM o ∧ (Fr [(46, 9999)] i_o o) ∧ (-9 ≤ x8 ∧ x8 ≤ 31) ∧ (x8 < 0 ∨ AL o x8) ∧ (PTR o) := hs
  obtain ⟨hB_o, fr_o, w0, w1, w2⟩ := hs
  have g0_27_i := bM_0_27 hB_i_o
  have g0_27_o : o.1 0 27 = i_o.1 0 27 := fr_o.1 0 27 rfl
  have g0_17_i := bM_0_17 hB_i_o
  have g0_17_o : o.1 0 17 = i_o.1 0 17 := fr_o.1 0 17 rfl
  have g0_32_i := bM_0_32 hB_i_o
  have g0_32_o : o.1 0 32 = i_o.1 0 32 := fr_o.1 0 32 rfl
  have s69 : S46 i_o o := S46.of fr_o (fun _ => rfl) (fun _ => rfl) (fun _ => rfl) (fun _ => rfl) (fun _ => rfl) (fun _ => rfl) (fun _ => rfl) rfl rfl
  have ine : INE o := INE.c6 s69 (by assumption)
  have al8 : ¬ x8 < 0 → AL o x8 := fun e => w1.elim (fun q => absurd q e) id
  show T (l_X12_whither_223 x5 x6 o x8) _
  unfold l_X12_whither_223
  refine T_qLt ⟨by omega, by omega⟩ ⟨by decide, by decide⟩ (fun h1 => ?_) (fun h1 => ?_)
  ·
    refine T_some ?_
    show BoxM o ∧ (Fr [(46, 9999)] i_o o) ∧ (PTR o)
    exact ⟨hB_o, fr_o, (by assumption)⟩
  ·
    refine T_qIn ⟨by omega, by omega⟩ ?_
    refine T_qNm (fun n8 e_n8 => ?_)
    have b_n8 : -9 ≤ n8 ∧ n8 ≤ 31 := by rw [e_n8]; exact bM_51 hB_o _
    have ix8 := ine x8 (al8 (by omega))
    have al9 : n8 < 0 ∨ AL o n8 := by rw [e_n8]; exact ix8.2.1.imp (fun q => by rw [q]; decide) id
    have le8 : LEN (i_o.1 51) n8 < LEN (i_o.1 51) x8 := by rw [e_n8, s69.2.2.2.2.2.2.1]; exact LEN_lt (by have q9 := ix8.2.2.1; rw [s69.2.2.2.2.2.2.1] at q9; exact q9) (by omega)
    refine T_qIn ⟨by omega, by omega⟩ ?_
    refine T_qNm (fun n10 e_n10 => ?_)
    have b_n10 : 0 ≤ n10 ∧ n10 ≤ 39 := by rw [e_n10]; exact bM_50 hB_o _
    refine T_qIn ⟨by omega, by omega⟩ ?_
    refine T_qNm (fun o12 e_o12 => ?_)
    have hB_o12 : BoxM o12 := by rw [e_o12]; exact Box.s1 hB_o (show -9 ≤ x8 ∧ x8 ≤ 31 from ⟨by omega, by omega⟩)
    have fr_o12 : Fr [(46, 9999)] i_o o12 := by rw [e_o12]; exact Fr.s1 fr_o rfl
    have g0_27_o12 : o12.1 0 27 = o.1 0 27 := by rw [e_o12]; rfl
    have g0_17_o12 : o12.1 0 17 = o.1 0 17 := by rw [e_o12]; rfl
    have g0_32_o12 : o12.1 0 32 = o.1 0 32 := by rw [e_o12]; rfl
    have pt12 : PTR o12 := by rw [e_o12, e_n10]; exact PTR_st ine w2 (al8 (by omega))
    have al12 : n8 < 0 ∨ AL o12 n8 := by rw [e_o12]; exact al9
    refine T_some ?_
    show (BoxM o12 ∧ (Fr [(46, 9999)] i_o o12) ∧ (-9 ≤ n8 ∧ n8 ≤ 31) ∧ (n8 < 0 ∨ AL o12 n8) ∧ (PTR o12)) ∧ LEN (i_o.1 51) n8 < LEN (i_o.1 51) x8
    exact ⟨⟨hB_o12, fr_o12, (by omega), (by first | assumption | exact Or.inr re), (by assumption)⟩, le8⟩
set_option maxRecDepth 20000 in
set_option maxHeartbeats 4000000 in
theorem tl_X12_whither_111 (z3 : Int64) (i_o : OO) (i_x5 : Int) (hB_i_o : BoxM i_o) (v0 : 0 ≤ i_x5 ∧ i_x5 ≤ i_o.1 0 27) (v1 : GN i_o i_x5) : T (loopW (fun s => l_X12_whither_111 z3 s.1 s.2) (i_o, i_x5)) (fun r => BoxM r ∧ (Fr [(46, 9999), (47, 9999)] i_o r) ∧ (GN r (r.1 0 27))) := by
  have fr_i_o : Fr [(46, 9999), (47, 9999)] i_o i_o := Fr.rf
  refine T_loop (fun s => BoxM s.1 ∧ (Fr [(46, 9999), (47, 9999)] i_o s.1) ∧ (0 ≤ s.2 ∧ s.2 ≤ s.1.1 0 27) ∧ (GN s.1 s.2)) (fun s => (s.1.1 0 27 - s.2).toNat) (by exact ⟨hB_i_o, fr_i_o, v0, v1⟩) (fun s hs => ?_)
  obtain ⟨o, x5⟩ := s
  replace hs : BoxM o ∧ (Fr [(46, 9999), (47, 9999)] i_o o) ∧ (0 ≤ x5 ∧ x5 ≤ o.1 0 27) ∧ (GN o x5) := hs
  obtain ⟨hB_o, fr_o, w0, w1⟩ := hs
  have g0_27_i := bM_0_27 hB_i_o
  have g0_27_o : o.1 0 27 = i_o.1 0 27 := fr_o.1 0 27 rfl
  have g0_17_i := bM_0_17 hB_i_o
  have g0_17_o : o.1 0 17 = i_o.1 0 17 := fr_o.1 0 17 rfl
  have g0_32_i := bM_0_32 hB_i_o
  have g0_32_o : o.1 0 32 = i_o.1 0 32 := fr_o.1 0 32 rfl
  show T (l_X12_whither_111 z3 o x5) _
  unfold l_X12_whither_111
  refine T_qLt ⟨by omega, by omega⟩ ⟨by omega, by omega⟩ (fun h2 => ?_) (fun h2 => ?_)
  ·
    refine T_qIn ⟨by omega, by omega⟩ ?_
    refine T_qNm (fun o27 e_o27 => ?_)
    have hB_o27 : BoxM o27 := by rw [e_o27]; exact Box.s1 hB_o (show -9 ≤ (-9) ∧ (-9) ≤ 31 from ⟨by omega, by omega⟩)
    have fr_o27 : Fr [(46, 9999), (47, 9999)] i_o o27 := by rw [e_o27]; exact Fr.s1 fr_o rfl
    have g0_27_o27 : o27.1 0 27 = o.1 0 27 := by rw [e_o27]; rfl
    have g0_17_o27 : o27.1 0 17 = o.1 0 17 := by rw [e_o27]; rfl
    have g0_32_o27 : o27.1 0 32 = o.1 0 32 := by rw [e_o27]; rfl
    have gn27 : GN o27 (x5 + 1) := by rw [e_o27]; exact GN_s w1 (by omega)
    refine T_qIn ⟨by omega, by omega⟩ ?_
    refine T_qNm (fun n29 e_n29 => ?_)
    have b_n29 : -9 ≤ n29 ∧ n29 ≤ 31 := by rw [e_n29]; exact bM_21 hB_o27 _
    refine T_qLt ⟨by omega, by omega⟩ ⟨by decide, by decide⟩ (fun h3 => ?_) (fun h3 => ?_)
    ·
      unfold b_X12_whither_168
      unfold b_X12_whither_169
      refine T_qIn ⟨by omega, by omega⟩ ?_
      refine T_qZ (Or.inl rfl) ?_
      refine T_qNm (fun o25 e_o25 => ?_)
      have hB_o25 : BoxM o25 := by rw [e_o25]; exact Box.s1 hB_o27 (show 0 ≤ 0 ∧ 0 ≤ 1 from ⟨by omega, by omega⟩)
      have fr_o25 : Fr [(46, 9999), (47, 9999)] i_o o25 := by rw [e_o25]; exact Fr.s1 fr_o27 rfl
      have g0_27_o25 : o25.1 0 27 = o27.1 0 27 := by rw [e_o25]; rfl
      have g0_17_o25 : o25.1 0 17 = o27.1 0 17 := by rw [e_o25]; rfl
      have g0_32_o25 : o25.1 0 32 = o27.1 0 32 := by rw [e_o25]; rfl
      have gn25 : GN o25 (x5 + 1) := by rw [e_o25]; exact gn27
      refine T_some ?_
      show (BoxM o25 ∧ (Fr [(46, 9999), (47, 9999)] i_o o25) ∧ (0 ≤ (x5 + 1) ∧ (x5 + 1) ≤ o25.1 0 27) ∧ (GN o25 (x5 + 1))) ∧ (o25.1 0 27 - (x5 + 1)).toNat < (o.1 0 27 - x5).toNat
      exact ⟨⟨hB_o25, fr_o25, (by omega), (by first | assumption | exact GN_0 | (have q9 := w1; rwa [show x5 = o.1 0 27 by omega] at q9))⟩, by omega⟩
    ·
      refine T_qIn ⟨by omega, by omega⟩ ?_
      refine T_qNm (fun n31 e_n31 => ?_)
      have b_n31 : -9 ≤ n31 ∧ n31 ≤ 31 := by rw [e_n31]; exact bM_21 hB_o27 _
      refine T_qIn ⟨by omega, by omega⟩ ?_
      refine T_qNm (fun n33 e_n33 => ?_)
      have b_n33 : 0 ≤ n33 ∧ n33 ≤ 63 := by rw [e_n33]; exact bM_13 hB_o27 _
      refine T_qB (t_X12_has z3 n33 (by omega)) (fun r34 hc_r34 hp4 => ?_)
      replace hp4 : ((r34 = 1 ∧ bt z3 n33.toNat = true) ∨ (r34 = 0 ∧ bt z3 n33.toNat = false)) := hp4
      refine T_qEq ⟨by omega, by omega⟩ ⟨by decide, by decide⟩ (fun h5 => ?_) (fun h5 => ?_)
      ·
        unfold b_X12_whither_168
        unfold b_X12_whither_169
        refine T_qIn ⟨by omega, by omega⟩ ?_
        refine T_qZ (Or.inl rfl) ?_
        refine T_qNm (fun o25 e_o25 => ?_)
        have hB_o25 : BoxM o25 := by rw [e_o25]; exact Box.s1 hB_o27 (show 0 ≤ 0 ∧ 0 ≤ 1 from ⟨by omega, by omega⟩)
        have fr_o25 : Fr [(46, 9999), (47, 9999)] i_o o25 := by rw [e_o25]; exact Fr.s1 fr_o27 rfl
        have g0_27_o25 : o25.1 0 27 = o27.1 0 27 := by rw [e_o25]; rfl
        have g0_17_o25 : o25.1 0 17 = o27.1 0 17 := by rw [e_o25]; rfl
        have g0_32_o25 : o25.1 0 32 = o27.1 0 32 := by rw [e_o25]; rfl
        have gn25 : GN o25 (x5 + 1) := by rw [e_o25]; exact gn27
        refine T_some ?_
        show (BoxM o25 ∧ (Fr [(46, 9999), (47, 9999)] i_o o25) ∧ (0 ≤ (x5 + 1) ∧ (x5 + 1) ≤ o25.1 0 27) ∧ (GN o25 (x5 + 1))) ∧ (o25.1 0 27 - (x5 + 1)).toNat < (o.1 0 27 - x5).toNat
        exact ⟨⟨hB_o25, fr_o25, (by omega), (by first | assumption | exact GN_0 | (have q9 := w1; rwa [show x5 = o.1 0 27 by omega] at q9))⟩, by omega⟩
      ·
        unfold b_X12_whither_169
        refine T_qIn ⟨by omega, by omega⟩ ?_
        refine T_qZ (Or.inr rfl) ?_
        refine T_qNm (fun o25 e_o25 => ?_)
        have hB_o25 : BoxM o25 := by rw [e_o25]; exact Box.s1 hB_o27 (show 0 ≤ 1 ∧ 1 ≤ 1 from ⟨by omega, by omega⟩)
        have fr_o25 : Fr [(46, 9999), (47, 9999)] i_o o25 := by rw [e_o25]; exact Fr.s1 fr_o27 rfl
        have g0_27_o25 : o25.1 0 27 = o27.1 0 27 := by rw [e_o25]; rfl
        have g0_17_o25 : o25.1 0 17 = o27.1 0 17 := by rw [e_o25]; rfl
        have g0_32_o25 : o25.1 0 32 = o27.1 0 32 := by rw [e_o25]; rfl
        have gn25 : GN o25 (x5 + 1) := by rw [e_o25]; exact gn27
        refine T_some ?_
        show (BoxM o25 ∧ (Fr [(46, 9999), (47, 9999)] i_o o25) ∧ (0 ≤ (x5 + 1) ∧ (x5 + 1) ≤ o25.1 0 27) ∧ (GN o25 (x5 + 1))) ∧ (o25.1 0 27 - (x5 + 1)).toNat < (o.1 0 27 - x5).toNat
        exact ⟨⟨hB_o25, fr_o25, (by omega), (by first | assumption | exact GN_0 | (have q9 := w1; rwa [show x5 = o.1 0 27 by omega] at q9))⟩, by omega⟩
  ·
    refine T_some ?_
    show BoxM o ∧ (Fr [(46, 9999), (47, 9999)] i_o o) ∧ (GN o (o.1 0 27))
    exact ⟨hB_o, fr_o, (by first | assumption | exact GN_0 | (have q9 := w1; rwa [show x5 = o.1 0 27 by omega] at q9))⟩
set_option maxRecDepth 20000 in
set_option maxHeartbeats 4000000 in
theorem tl_X12_whither_188  (i_o : OO) (i_x5 : Int) (i_x6 : Int) (i_x7 : Int) (hB_i_o : BoxM i_o) (v0 : 0 ≤ i_x5) (v1 : i_x5 + SPS i_o ≤ 640) (v2 : i_x7 = -9 ∨ (0 ≤ i_x7 ∧ i_x7 < i_o.1 0 17)) (v3 : RES i_o i_x7 i_x5) : T (loopW (fun s => l_X12_whither_188 s.1 s.2.1 s.2.2.1 s.2.2.2) (i_o, i_x5, i_x6, i_x7)) (fun r => BoxM r.1 ∧ (Fr [(46, 9999), (48, 9999), (49, 9999), (50, 9999), (51, 9999)] i_o r.1) ∧ (0 ≤ r.2.1 ∧ r.2.1 ≤ 640)) := by
  have fr_i_o : Fr [(46, 9999), (48, 9999), (49, 9999), (50, 9999), (51, 9999)] i_o i_o := Fr.rf
  refine T_loop (fun s => BoxM s.1 ∧ (Fr [(46, 9999), (48, 9999), (49, 9999), (50, 9999), (51, 9999)] i_o s.1) ∧ (0 ≤ s.2.1) ∧ (s.2.1 + SPS s.1 ≤ 640) ∧ (s.2.2.2 = -9 ∨ (0 ≤ s.2.2.2 ∧ s.2.2.2 < s.1.1 0 17)) ∧ (RES s.1 s.2.2.2 s.2.1)) (fun s => (640 - s.2.1).toNat) (by exact ⟨hB_i_o, fr_i_o, v0, v1, v2, v3⟩) (fun s hs => ?_)
  obtain ⟨o, x5, x6, x7⟩ := s
  replace hs : BoxM o ∧ (Fr [(46, 9999), (48, 9999), (49, 9999), (50, 9999), (51, 9999)] i_o o) ∧ (0 ≤ x5) ∧ (x5 + SPS o ≤ 640) ∧ (x7 = -9 ∨ (0 ≤ x7 ∧ x7 < o.1 0 17)) ∧ (RES o x7 x5) := hs
  obtain ⟨hB_o, fr_o, w0, w1, w2, w3⟩ := hs
  have g0_27_i := bM_0_27 hB_i_o
  have g0_27_o : o.1 0 27 = i_o.1 0 27 := fr_o.1 0 27 rfl
  have g0_17_i := bM_0_17 hB_i_o
  have g0_17_o : o.1 0 17 = i_o.1 0 17 := fr_o.1 0 17 rfl
  have g0_32_i := bM_0_32 hB_i_o
  have g0_32_o : o.1 0 32 = i_o.1 0 32 := fr_o.1 0 32 rfl
  have sp9 := SPS_rng hB_o
  show T (l_X12_whither_188 o x5 x6 x7) _
  unfold l_X12_whither_188
  refine T_qLt ⟨by omega, by omega⟩ ⟨by decide, by decide⟩ (fun h6 => ?_) (fun h6 => ?_)
  ·
    refine T_some ?_
    show BoxM o ∧ (Fr [(46, 9999), (48, 9999), (49, 9999), (50, 9999), (51, 9999)] i_o o) ∧ (0 ≤ x5 ∧ x5 ≤ 640)
    exact ⟨hB_o, fr_o, (by omega)⟩
  ·
    refine T_qIn ⟨by omega, by omega⟩ ?_
    refine T_qNm (fun n14 e_n14 => ?_)
    have b_n14 : -2147483648 ≤ n14 ∧ n14 ≤ 2147483647 := by rw [e_n14]; exact bM_49 hB_o _
    refine T_qNm (fun n15 e_n15 => ?_)
    refine T_qIn ⟨by omega, by omega⟩ ?_
    refine T_qNm (fun n17 e_n17 => ?_)
    have b_n17 : -40 ≤ n17 ∧ n17 ≤ 20 := by rw [e_n17]; exact bM_48 hB_o _
    have r48 := RES_48 w3 (by omega)
    rw [← e_n17] at r48
    have sp1 := SPS_one (o := o) (v := x7) (by omega) (by omega)
    rw [← e_n17] at sp1
    refine T_qIn ⟨by omega, by omega⟩ ?_
    refine T_qNm (fun o19 e_o19 => ?_)
    have hB_o19 : BoxM o19 := by rw [e_o19]; exact Box.s1 hB_o (show -40 ≤ (n17 - 1) ∧ (n17 - 1) ≤ 20 from ⟨by omega, by omega⟩)
    have fr_o19 : Fr [(46, 9999), (48, 9999), (49, 9999), (50, 9999), (51, 9999)] i_o o19 := by rw [e_o19]; exact Fr.s1 fr_o rfl
    have g0_27_o19 : o19.1 0 27 = o.1 0 27 := by rw [e_o19]; rfl
    have g0_17_o19 : o19.1 0 17 = o.1 0 17 := by rw [e_o19]; rfl
    have g0_32_o19 : o19.1 0 32 = o.1 0 32 := by rw [e_o19]; rfl
    rw [← e_o19] at r48 sp1
    obtain ⟨ra, rb, rc, rd, re⟩ := r48
    unfold e_X12_whither_223
    refine T_qB (tl_X12_whither_223 (x5 + 1) n15 o19 x7 hB_o19 (by assumption) (by omega) (by first | assumption | exact Or.inr re) (by assumption)) (fun r7 hc_r7 hp8 => ?_)
    obtain ⟨o_9, q_o_9⟩ : ∃ q, q = r7 := ⟨_, rfl⟩
    subst q_o_9
    replace hp8 : BoxM o_9 ∧ (Fr [(46, 9999)] o19 o_9) ∧ (PTR o_9) := hp8
    have hps_hp8 := hp8
    obtain ⟨hp8_0, hp8_1, hp8_2⟩ := hps_hp8
    obtain ⟨hB_o_9, fc_o_9, hp8⟩ := hp8
    replace hp8 := hid hp8
    have fr_o_9 : Fr [(46, 9999), (48, 9999), (49, 9999), (50, 9999), (51, 9999)] i_o o_9 := Fr.tr fr_o19 fc_o_9 rfl
    have g0_27_o_9 : o_9.1 0 27 = o19.1 0 27 := fc_o_9.1 0 27 rfl
    have g0_17_o_9 : o_9.1 0 17 = o19.1 0 17 := fc_o_9.1 0 17 rfl
    have g0_32_o_9 : o_9.1 0 32 = o19.1 0 32 := fc_o_9.1 0 32 rfl
    show T (b_X12_whither_258 o_9 (x5 + 1) n15) _
    have s6x : S46 o19 o_9 := S46.of fc_o_9 (fun _ => rfl) (fun _ => rfl) (fun _ => rfl) (fun _ => rfl) (fun _ => rfl) (fun _ => rfl) (fun _ => rfl) rfl rfl
    have ptx9 : PTX o_9 ((x5 + 1)) := PTX_next s6x rd (by assumption)
    have kx9 : KX o_9 := KX_of ptx9 (by omega)
    have spx : SPS o_9 = SPS o19 := SPS_cg (fun j => fc_o_9.1 48 j rfl)
    unfold b_X12_whither_258
    refine T_qB2 (t_X12_cheapest o_9 hB_o_9 (by assumption)) (fun r4 o6 hc_r4 hp10 => ?_)
    replace hp10 : BoxM o6 ∧ (Fr [(49, 9999), (50, 9999), (51, 9999)] o_9 o6) ∧ (r4 = -9 ∨ (0 ≤ r4 ∧ r4 < o_9.1 0 17)) ∧ (RESX o_9 o6 r4) := hp10
    obtain ⟨hB_o6, fc_o6, hp10⟩ := hp10
    have fr_o6 : Fr [(46, 9999), (48, 9999), (49, 9999), (50, 9999), (51, 9999)] i_o o6 := Fr.tr fr_o_9 fc_o6 rfl
    have g0_27_o6 : o6.1 0 27 = o_9.1 0 27 := fc_o6.1 0 27 rfl
    have g0_17_o6 : o6.1 0 17 = o_9.1 0 17 := fc_o6.1 0 17 rfl
    have g0_32_o6 : o6.1 0 32 = o_9.1 0 32 := fc_o6.1 0 32 rfl
    have rs4 := hp10.2 _ (by omega) ptx9
    have sp4 : SPS o6 = SPS o_9 := SPS_cg (fun j => fc_o6.1 48 j rfl)
    have hq4 := hp10.1
    have spz := SPS_rng hB_o6
    refine T_some ?_
    show (BoxM o6 ∧ (Fr [(46, 9999), (48, 9999), (49, 9999), (50, 9999), (51, 9999)] i_o o6) ∧ (0 ≤ (x5 + 1)) ∧ ((x5 + 1) + SPS o6 ≤ 640) ∧ (r4 = -9 ∨ (0 ≤ r4 ∧ r4 < o6.1 0 17)) ∧ (RES o6 r4 (x5 + 1))) ∧ (640 - (x5 + 1)).toNat < (640 - x5).toNat
    exact ⟨⟨hB_o6, fr_o6, (by omega), (by omega), (by omega), (by assumption)⟩, by omega⟩
set_option maxRecDepth 20000 in
set_option maxHeartbeats 4000000 in
theorem tl_X12_whither_21 (z3 : Int64) (i_o : OO) (i_x5 : Int) (hB_i_o : BoxM i_o) (v0 : 0 ≤ i_x5 ∧ i_x5 ≤ i_o.1 0 17) : T (loopW (fun s => l_X12_whither_21 z3 s.1 s.2) (i_o, i_x5)) (fun r => BoxM r ∧ (Fr [(48, 9999)] i_o r)) := by
  have fr_i_o : Fr [(48, 9999)] i_o i_o := Fr.rf
  refine T_loop (fun s => BoxM s.1 ∧ (Fr [(48, 9999)] i_o s.1) ∧ (0 ≤ s.2 ∧ s.2 ≤ s.1.1 0 17)) (fun s => (s.1.1 0 17 - s.2).toNat) (by exact ⟨hB_i_o, fr_i_o, v0⟩) (fun s hs => ?_)
  obtain ⟨o, x5⟩ := s
  replace hs : BoxM o ∧ (Fr [(48, 9999)] i_o o) ∧ (0 ≤ x5 ∧ x5 ≤ o.1 0 17) := hs
  obtain ⟨hB_o, fr_o, w0⟩ := hs
  have g0_27_i := bM_0_27 hB_i_o
  have g0_27_o : o.1 0 27 = i_o.1 0 27 := fr_o.1 0 27 rfl
  have g0_17_i := bM_0_17 hB_i_o
  have g0_17_o : o.1 0 17 = i_o.1 0 17 := fr_o.1 0 17 rfl
  have g0_32_i := bM_0_32 hB_i_o
  have g0_32_o : o.1 0 32 = i_o.1 0 32 := fr_o.1 0 32 rfl
  show T (l_X12_whither_21 z3 o x5) _
  unfold l_X12_whither_21
  refine T_qLt ⟨by omega, by omega⟩ ⟨by omega, by omega⟩ (fun h11 => ?_) (fun h11 => ?_)
  ·
    refine T_qIn ⟨by omega, by omega⟩ ?_
    refine T_qNm (fun n43 e_n43 => ?_)
    have b_n43 : 0 ≤ n43 ∧ n43 ≤ 2 := by rw [e_n43]; exact bM_14 hB_o _
    refine T_qEq ⟨by omega, by omega⟩ ⟨by decide, by decide⟩ (fun h12 => ?_) (fun h12 => ?_)
    ·
      refine T_qIn ⟨by omega, by omega⟩ ?_
      refine T_qNm (fun n45 e_n45 => ?_)
      have b_n45 : 0 ≤ n45 ∧ n45 ≤ 1 := by rw [e_n45]; exact bM_16 hB_o _
      refine T_qEq ⟨by omega, by omega⟩ ⟨by decide, by decide⟩ (fun h13 => ?_) (fun h13 => ?_)
      ·
        refine T_qIn ⟨by omega, by omega⟩ ?_
        refine T_qNm (fun n47 e_n47 => ?_)
        have b_n47 : 0 ≤ n47 ∧ n47 ≤ 63 := by rw [e_n47]; exact bM_13 hB_o _
        refine T_qB (t_X12_has z3 n47 (by omega)) (fun r48 hc_r48 hp14 => ?_)
        replace hp14 : ((r48 = 1 ∧ bt z3 n47.toNat = true) ∨ (r48 = 0 ∧ bt z3 n47.toNat = false)) := hp14
        refine T_qEq ⟨by omega, by omega⟩ ⟨by decide, by decide⟩ (fun h15 => ?_) (fun h15 => ?_)
        ·
          unfold b_X12_whither_69
          refine T_qEq ⟨by decide, by decide⟩ ⟨by decide, by decide⟩ (fun h16 => ?_) (fun h16 => ?_)
          ·
            unfold b_X12_whither_101
            refine T_qIn ⟨by omega, by omega⟩ ?_
            refine T_qNm (fun o37 e_o37 => ?_)
            have hB_o37 : BoxM o37 := by rw [e_o37]; exact Box.s1 hB_o (show -40 ≤ (-9) ∧ (-9) ≤ 20 from ⟨by omega, by omega⟩)
            have fr_o37 : Fr [(48, 9999)] i_o o37 := by rw [e_o37]; exact Fr.s1 fr_o rfl
            have g0_27_o37 : o37.1 0 27 = o.1 0 27 := by rw [e_o37]; rfl
            have g0_17_o37 : o37.1 0 17 = o.1 0 17 := by rw [e_o37]; rfl
            have g0_32_o37 : o37.1 0 32 = o.1 0 32 := by rw [e_o37]; rfl
            refine T_some ?_
            show (BoxM o37 ∧ (Fr [(48, 9999)] i_o o37) ∧ (0 ≤ (x5 + 1) ∧ (x5 + 1) ≤ o37.1 0 17)) ∧ (o37.1 0 17 - (x5 + 1)).toNat < (o.1 0 17 - x5).toNat
            exact ⟨⟨hB_o37, fr_o37, (by omega)⟩, by omega⟩
          ·
            refine T_qIn ⟨by omega, by omega⟩ ?_
            refine T_qNm (fun n39 e_n39 => ?_)
            have b_n39 : 0 ≤ n39 ∧ n39 ≤ 20 := by rw [e_n39]; exact bM_15 hB_o _
            refine T_qB (t_X12_living o x5 hB_o (by omega)) (fun r40 hc_r40 hp17 => ?_)
            replace hp17 : (0 ≤ r40 ∧ r40 ≤ 40) := hp17
            unfold b_X12_whither_101
            refine T_qIn ⟨by omega, by omega⟩ ?_
            refine T_qNm (fun o37 e_o37 => ?_)
            have hB_o37 : BoxM o37 := by rw [e_o37]; exact Box.s1 hB_o (show -40 ≤ (n39 - r40) ∧ (n39 - r40) ≤ 20 from ⟨by omega, by omega⟩)
            have fr_o37 : Fr [(48, 9999)] i_o o37 := by rw [e_o37]; exact Fr.s1 fr_o rfl
            have g0_27_o37 : o37.1 0 27 = o.1 0 27 := by rw [e_o37]; rfl
            have g0_17_o37 : o37.1 0 17 = o.1 0 17 := by rw [e_o37]; rfl
            have g0_32_o37 : o37.1 0 32 = o.1 0 32 := by rw [e_o37]; rfl
            refine T_some ?_
            show (BoxM o37 ∧ (Fr [(48, 9999)] i_o o37) ∧ (0 ≤ (x5 + 1) ∧ (x5 + 1) ≤ o37.1 0 17)) ∧ (o37.1 0 17 - (x5 + 1)).toNat < (o.1 0 17 - x5).toNat
            exact ⟨⟨hB_o37, fr_o37, (by omega)⟩, by omega⟩
        ·
          unfold b_X12_whither_68
          unfold b_X12_whither_69
          refine T_qEq ⟨by decide, by decide⟩ ⟨by decide, by decide⟩ (fun h18 => ?_) (fun h18 => ?_)
          ·
            unfold b_X12_whither_101
            refine T_qIn ⟨by omega, by omega⟩ ?_
            refine T_qNm (fun o37 e_o37 => ?_)
            have hB_o37 : BoxM o37 := by rw [e_o37]; exact Box.s1 hB_o (show -40 ≤ (-9) ∧ (-9) ≤ 20 from ⟨by omega, by omega⟩)
            have fr_o37 : Fr [(48, 9999)] i_o o37 := by rw [e_o37]; exact Fr.s1 fr_o rfl
            have g0_27_o37 : o37.1 0 27 = o.1 0 27 := by rw [e_o37]; rfl
            have g0_17_o37 : o37.1 0 17 = o.1 0 17 := by rw [e_o37]; rfl
            have g0_32_o37 : o37.1 0 32 = o.1 0 32 := by rw [e_o37]; rfl
            refine T_some ?_
            show (BoxM o37 ∧ (Fr [(48, 9999)] i_o o37) ∧ (0 ≤ (x5 + 1) ∧ (x5 + 1) ≤ o37.1 0 17)) ∧ (o37.1 0 17 - (x5 + 1)).toNat < (o.1 0 17 - x5).toNat
            exact ⟨⟨hB_o37, fr_o37, (by omega)⟩, by omega⟩
          ·
            refine T_qIn ⟨by omega, by omega⟩ ?_
            refine T_qNm (fun n39 e_n39 => ?_)
            have b_n39 : 0 ≤ n39 ∧ n39 ≤ 20 := by rw [e_n39]; exact bM_15 hB_o _
            refine T_qB (t_X12_living o x5 hB_o (by omega)) (fun r40 hc_r40 hp19 => ?_)
            replace hp19 : (0 ≤ r40 ∧ r40 ≤ 40) := hp19
            unfold b_X12_whither_101
            refine T_qIn ⟨by omega, by omega⟩ ?_
            refine T_qNm (fun o37 e_o37 => ?_)
            have hB_o37 : BoxM o37 := by rw [e_o37]; exact Box.s1 hB_o (show -40 ≤ (n39 - r40) ∧ (n39 - r40) ≤ 20 from ⟨by omega, by omega⟩)
            have fr_o37 : Fr [(48, 9999)] i_o o37 := by rw [e_o37]; exact Fr.s1 fr_o rfl
            have g0_27_o37 : o37.1 0 27 = o.1 0 27 := by rw [e_o37]; rfl
            have g0_17_o37 : o37.1 0 17 = o.1 0 17 := by rw [e_o37]; rfl
            have g0_32_o37 : o37.1 0 32 = o.1 0 32 := by rw [e_o37]; rfl
            refine T_some ?_
            show (BoxM o37 ∧ (Fr [(48, 9999)] i_o o37) ∧ (0 ≤ (x5 + 1) ∧ (x5 + 1) ≤ o37.1 0 17)) ∧ (o37.1 0 17 - (x5 + 1)).toNat < (o.1 0 17 - x5).toNat
            exact ⟨⟨hB_o37, fr_o37, (by omega)⟩, by omega⟩
      ·
        unfold b_X12_whither_68
        unfold b_X12_whither_69
        refine T_qEq ⟨by decide, by decide⟩ ⟨by decide, by decide⟩ (fun h20 => ?_) (fun h20 => ?_)
        ·
          unfold b_X12_whither_101
          refine T_qIn ⟨by omega, by omega⟩ ?_
          refine T_qNm (fun o37 e_o37 => ?_)
          have hB_o37 : BoxM o37 := by rw [e_o37]; exact Box.s1 hB_o (show -40 ≤ (-9) ∧ (-9) ≤ 20 from ⟨by omega, by omega⟩)
          have fr_o37 : Fr [(48, 9999)] i_o o37 := by rw [e_o37]; exact Fr.s1 fr_o rfl
          have g0_27_o37 : o37.1 0 27 = o.1 0 27 := by rw [e_o37]; rfl
          have g0_17_o37 : o37.1 0 17 = o.1 0 17 := by rw [e_o37]; rfl
          have g0_32_o37 : o37.1 0 32 = o.1 0 32 := by rw [e_o37]; rfl
          refine T_some ?_
          show (BoxM o37 ∧ (Fr [(48, 9999)] i_o o37) ∧ (0 ≤ (x5 + 1) ∧ (x5 + 1) ≤ o37.1 0 17)) ∧ (o37.1 0 17 - (x5 + 1)).toNat < (o.1 0 17 - x5).toNat
          exact ⟨⟨hB_o37, fr_o37, (by omega)⟩, by omega⟩
        ·
          refine T_qIn ⟨by omega, by omega⟩ ?_
          refine T_qNm (fun n39 e_n39 => ?_)
          have b_n39 : 0 ≤ n39 ∧ n39 ≤ 20 := by rw [e_n39]; exact bM_15 hB_o _
          refine T_qB (t_X12_living o x5 hB_o (by omega)) (fun r40 hc_r40 hp21 => ?_)
          replace hp21 : (0 ≤ r40 ∧ r40 ≤ 40) := hp21
          unfold b_X12_whither_101
          refine T_qIn ⟨by omega, by omega⟩ ?_
          refine T_qNm (fun o37 e_o37 => ?_)
          have hB_o37 : BoxM o37 := by rw [e_o37]; exact Box.s1 hB_o (show -40 ≤ (n39 - r40) ∧ (n39 - r40) ≤ 20 from ⟨by omega, by omega⟩)
          have fr_o37 : Fr [(48, 9999)] i_o o37 := by rw [e_o37]; exact Fr.s1 fr_o rfl
          have g0_27_o37 : o37.1 0 27 = o.1 0 27 := by rw [e_o37]; rfl
          have g0_17_o37 : o37.1 0 17 = o.1 0 17 := by rw [e_o37]; rfl
          have g0_32_o37 : o37.1 0 32 = o.1 0 32 := by rw [e_o37]; rfl
          refine T_some ?_
          show (BoxM o37 ∧ (Fr [(48, 9999)] i_o o37) ∧ (0 ≤ (x5 + 1) ∧ (x5 + 1) ≤ o37.1 0 17)) ∧ (o37.1 0 17 - (x5 + 1)).toNat < (o.1 0 17 - x5).toNat
          exact ⟨⟨hB_o37, fr_o37, (by omega)⟩, by omega⟩
    ·
      unfold b_X12_whither_68
      unfold b_X12_whither_69
      refine T_qEq ⟨by decide, by decide⟩ ⟨by decide, by decide⟩ (fun h22 => ?_) (fun h22 => ?_)
      ·
        unfold b_X12_whither_101
        refine T_qIn ⟨by omega, by omega⟩ ?_
        refine T_qNm (fun o37 e_o37 => ?_)
        have hB_o37 : BoxM o37 := by rw [e_o37]; exact Box.s1 hB_o (show -40 ≤ (-9) ∧ (-9) ≤ 20 from ⟨by omega, by omega⟩)
        have fr_o37 : Fr [(48, 9999)] i_o o37 := by rw [e_o37]; exact Fr.s1 fr_o rfl
        have g0_27_o37 : o37.1 0 27 = o.1 0 27 := by rw [e_o37]; rfl
        have g0_17_o37 : o37.1 0 17 = o.1 0 17 := by rw [e_o37]; rfl
        have g0_32_o37 : o37.1 0 32 = o.1 0 32 := by rw [e_o37]; rfl
        refine T_some ?_
        show (BoxM o37 ∧ (Fr [(48, 9999)] i_o o37) ∧ (0 ≤ (x5 + 1) ∧ (x5 + 1) ≤ o37.1 0 17)) ∧ (o37.1 0 17 - (x5 + 1)).toNat < (o.1 0 17 - x5).toNat
        exact ⟨⟨hB_o37, fr_o37, (by omega)⟩, by omega⟩
      ·
        refine T_qIn ⟨by omega, by omega⟩ ?_
        refine T_qNm (fun n39 e_n39 => ?_)
        have b_n39 : 0 ≤ n39 ∧ n39 ≤ 20 := by rw [e_n39]; exact bM_15 hB_o _
        refine T_qB (t_X12_living o x5 hB_o (by omega)) (fun r40 hc_r40 hp23 => ?_)
        replace hp23 : (0 ≤ r40 ∧ r40 ≤ 40) := hp23
        unfold b_X12_whither_101
        refine T_qIn ⟨by omega, by omega⟩ ?_
        refine T_qNm (fun o37 e_o37 => ?_)
        have hB_o37 : BoxM o37 := by rw [e_o37]; exact Box.s1 hB_o (show -40 ≤ (n39 - r40) ∧ (n39 - r40) ≤ 20 from ⟨by omega, by omega⟩)
        have fr_o37 : Fr [(48, 9999)] i_o o37 := by rw [e_o37]; exact Fr.s1 fr_o rfl
        have g0_27_o37 : o37.1 0 27 = o.1 0 27 := by rw [e_o37]; rfl
        have g0_17_o37 : o37.1 0 17 = o.1 0 17 := by rw [e_o37]; rfl
        have g0_32_o37 : o37.1 0 32 = o.1 0 32 := by rw [e_o37]; rfl
        refine T_some ?_
        show (BoxM o37 ∧ (Fr [(48, 9999)] i_o o37) ∧ (0 ≤ (x5 + 1) ∧ (x5 + 1) ≤ o37.1 0 17)) ∧ (o37.1 0 17 - (x5 + 1)).toNat < (o.1 0 17 - x5).toNat
        exact ⟨⟨hB_o37, fr_o37, (by omega)⟩, by omega⟩
  ·
    refine T_some ?_
    show BoxM o ∧ (Fr [(48, 9999)] i_o o)
    exact ⟨hB_o, fr_o⟩
set_option maxRecDepth 20000 in
set_option maxHeartbeats 4000000 in
theorem t_X12_whither (o : OO) (x1 : Int) (hB_o : BoxM o) (k0 : inR x1) : T (s_X12_whither o x1) (fun v => BoxM v.2 ∧ (Fr [(0, 0), (0, 2), (1, 9999), (46, 9999), (47, 9999), (48, 9999), (49, 9999), (50, 9999), (51, 9999)] o v.2)) := by
  have fr_o : Fr [(0, 0), (0, 2), (1, 9999), (46, 9999), (47, 9999), (48, 9999), (49, 9999), (50, 9999), (51, 9999)] o o := Fr.rf
  have g0_27_o := bM_0_27 hB_o
  have g0_17_o := bM_0_17 hB_o
  have g0_32_o := bM_0_32 hB_o
  unfold s_X12_whither
  refine T_qB2 (t_X12_askedLine o x1 hB_o (by omega)) (fun r50 o52 hc_r50 hp24 => ?_)
  replace hp24 : BoxM o52 ∧ (Fr [(0, 0), (1, 9999)] o o52) ∧ (r50 = -1 ∨ r50 = -3 ∨ (r50 = 0 ∧ 0 ≤ x1 ∧ x1 < o.1 0 32)) := hp24
  obtain ⟨hB_o52, fc_o52, hp24⟩ := hp24
  have fr_o52 : Fr [(0, 0), (0, 2), (1, 9999), (46, 9999), (47, 9999), (48, 9999), (49, 9999), (50, 9999), (51, 9999)] o o52 := Fr.tr fr_o fc_o52 rfl
  have g0_27_o52 : o52.1 0 27 = o.1 0 27 := fc_o52.1 0 27 rfl
  have g0_17_o52 : o52.1 0 17 = o.1 0 17 := fc_o52.1 0 17 rfl
  have g0_32_o52 : o52.1 0 32 = o.1 0 32 := fc_o52.1 0 32 rfl
  refine T_qLt ⟨by omega, by omega⟩ ⟨by decide, by decide⟩ (fun h25 => ?_) (fun h25 => ?_)
  ·
    refine T_some ?_
    show BoxM o52 ∧ (Fr [(0, 0), (0, 2), (1, 9999), (46, 9999), (47, 9999), (48, 9999), (49, 9999), (50, 9999), (51, 9999)] o o52)
    exact ⟨hB_o52, fr_o52⟩
  ·
    refine T_qB (t_X12_cellsOf o52 x1 hB_o52 (by omega)) (fun p53 hc_p53 hp26 => ?_)
    unfold e_X12_whither_21
    refine T_qB (tl_X12_whither_21 p53 o52 0 hB_o52 (by omega)) (fun r27 hc_r27 hp28 => ?_)
    obtain ⟨o_29, q_o_29⟩ : ∃ q, q = r27 := ⟨_, rfl⟩
    subst q_o_29
    replace hp28 : BoxM o_29 ∧ (Fr [(48, 9999)] o52 o_29) := hp28
    have hps_hp28 := hp28
    obtain ⟨hp28_0, hp28_1⟩ := hps_hp28
    obtain ⟨hB_o_29, fc_o_29⟩ := hp28
    have fr_o_29 : Fr [(0, 0), (0, 2), (1, 9999), (46, 9999), (47, 9999), (48, 9999), (49, 9999), (50, 9999), (51, 9999)] o o_29 := Fr.tr fr_o52 fc_o_29 rfl
    have g0_27_o_29 : o_29.1 0 27 = o52.1 0 27 := fc_o_29.1 0 27 rfl
    have g0_17_o_29 : o_29.1 0 17 = o52.1 0 17 := fc_o_29.1 0 17 rfl
    have g0_32_o_29 : o_29.1 0 32 = o52.1 0 32 := fc_o_29.1 0 32 rfl
    show T (b_X12_whither_108 o_29 p53) _
    unfold b_X12_whither_108
    unfold e_X12_whither_111
    refine T_qB (tl_X12_whither_111 p53 o_29 0 hB_o_29 (by omega) (by first | assumption | exact GN_0 | (have q9 := w1; rwa [show x5 = o.1 0 27 by omega] at q9))) (fun r30 hc_r30 hp31 => ?_)
    obtain ⟨o_32, q_o_32⟩ : ∃ q, q = r30 := ⟨_, rfl⟩
    subst q_o_32
    replace hp31 : BoxM o_32 ∧ (Fr [(46, 9999), (47, 9999)] o_29 o_32) ∧ (GN o_32 (o_32.1 0 27)) := hp31
    have hps_hp31 := hp31
    obtain ⟨hp31_0, hp31_1, hp31_2⟩ := hps_hp31
    obtain ⟨hB_o_32, fc_o_32, hp31⟩ := hp31
    replace hp31 := hid hp31
    have fr_o_32 : Fr [(0, 0), (0, 2), (1, 9999), (46, 9999), (47, 9999), (48, 9999), (49, 9999), (50, 9999), (51, 9999)] o o_32 := Fr.tr fr_o_29 fc_o_32 rfl
    have g0_27_o_32 : o_32.1 0 27 = o_29.1 0 27 := fc_o_32.1 0 27 rfl
    have g0_17_o_32 : o_32.1 0 17 = o_29.1 0 17 := fc_o_32.1 0 17 rfl
    have g0_32_o_32 : o_32.1 0 32 = o_29.1 0 32 := fc_o_32.1 0 32 rfl
    show T (b_X12_whither_176 o_32) _
    have gn9 : GN o_32 (o_32.1 0 27) := by assumption
    have ptx0 : PTX o_32 0 := PTX_0 gn9
    have kx9 : KX o_32 := KX_of ptx0 (by decide)
    unfold b_X12_whither_176
    refine T_qB2 (t_X12_cheapest o_32 hB_o_32 (by assumption)) (fun r20 o22 hc_r20 hp33 => ?_)
    replace hp33 : BoxM o22 ∧ (Fr [(49, 9999), (50, 9999), (51, 9999)] o_32 o22) ∧ (r20 = -9 ∨ (0 ≤ r20 ∧ r20 < o_32.1 0 17)) ∧ (RESX o_32 o22 r20) := hp33
    obtain ⟨hB_o22, fc_o22, hp33⟩ := hp33
    have fr_o22 : Fr [(0, 0), (0, 2), (1, 9999), (46, 9999), (47, 9999), (48, 9999), (49, 9999), (50, 9999), (51, 9999)] o o22 := Fr.tr fr_o_32 fc_o22 rfl
    have g0_27_o22 : o22.1 0 27 = o_32.1 0 27 := fc_o22.1 0 27 rfl
    have g0_17_o22 : o22.1 0 17 = o_32.1 0 17 := fc_o22.1 0 17 rfl
    have g0_32_o22 : o22.1 0 32 = o_32.1 0 32 := fc_o22.1 0 32 rfl
    have rs20 := hp33.2 0 (by decide) ptx0
    have sp20 := SPS_rng hB_o22
    have hq20 := hp33.1
    unfold e_X12_whither_188
    refine T_qB (tl_X12_whither_188 o22 0 0 r20 hB_o22 (by omega) (by omega) (by omega) (by assumption)) (fun r34 hc_r34 hp35 => ?_)
    obtain ⟨o_36, x5_37, x6_38⟩ := r34
    replace hp35 : BoxM o_36 ∧ (Fr [(46, 9999), (48, 9999), (49, 9999), (50, 9999), (51, 9999)] o22 o_36) ∧ (0 ≤ x5_37 ∧ x5_37 ≤ 640) := hp35
    have hps_hp35 := hp35
    obtain ⟨hp35_0, hp35_1, hp35_2⟩ := hps_hp35
    obtain ⟨hB_o_36, fc_o_36, hp35⟩ := hp35
    replace hp35 := hid hp35
    have fr_o_36 : Fr [(0, 0), (0, 2), (1, 9999), (46, 9999), (47, 9999), (48, 9999), (49, 9999), (50, 9999), (51, 9999)] o o_36 := Fr.tr fr_o22 fc_o_36 rfl
    have g0_27_o_36 : o_36.1 0 27 = o22.1 0 27 := fc_o_36.1 0 27 rfl
    have g0_17_o_36 : o_36.1 0 17 = o22.1 0 17 := fc_o_36.1 0 17 rfl
    have g0_32_o_36 : o_36.1 0 32 = o22.1 0 32 := fc_o_36.1 0 32 rfl
    show T (b_X12_whither_267 o_36 x5_37 x6_38) _
    unfold b_X12_whither_267
    refine T_qB2 (t_X12_ask o_36 x6_38 x5_37 hB_o_36) (fun r1 o3 hc_r1 hp39 => ?_)
    replace hp39 : BoxM o3 ∧ (Fr [(0, 2)] o_36 o3) ∧ (r1 = x5_37) := hp39
    obtain ⟨hB_o3, fc_o3, hp39⟩ := hp39
    have fr_o3 : Fr [(0, 0), (0, 2), (1, 9999), (46, 9999), (47, 9999), (48, 9999), (49, 9999), (50, 9999), (51, 9999)] o o3 := Fr.tr fr_o_36 fc_o3 rfl
    have g0_27_o3 : o3.1 0 27 = o_36.1 0 27 := fc_o3.1 0 27 rfl
    have g0_17_o3 : o3.1 0 17 = o_36.1 0 17 := fc_o3.1 0 17 rfl
    have g0_32_o3 : o3.1 0 32 = o_36.1 0 32 := fc_o3.1 0 32 rfl
    refine T_some ?_
    show BoxM o3 ∧ (Fr [(0, 0), (0, 2), (1, 9999), (46, 9999), (47, 9999), (48, 9999), (49, 9999), (50, 9999), (51, 9999)] o o3)
    exact ⟨hB_o3, fr_o3⟩
set_option maxRecDepth 20000 in
set_option maxHeartbeats 4000000 in
theorem t_X12_who (o : OO) (x1 : Int) (x2 : Int) (hB_o : BoxM o) (k0 : inR x1) (k1 : inR x2) : T (s_X12_who o x1 x2) (fun v => BoxM v.2 ∧ (Fr [(0, 2)] o v.2)) := by
  have fr_o : Fr [(0, 2)] o o := Fr.rf
  have g0_27_o := bM_0_27 hB_o
  unfold s_X12_who
  refine T_qB (t_X12_isPerson o x1 hB_o (by omega)) (fun r1 hc_r1 hp1 => ?_)
  replace hp1 : ((r1 = 1 ∧ 0 ≤ x1 ∧ x1 < o.1 0 27) ∨ (r1 = 0 ∧ (x1 < 0 ∨ o.1 0 27 ≤ x1))) := hp1
  refine T_qEq ⟨by omega, by omega⟩ ⟨by decide, by decide⟩ (fun h2 => ?_) (fun h2 => ?_)
  ·
    unfold b_X12_who_31
    unfold b_X12_who_32
    refine T_some ?_
    show BoxM o ∧ (Fr [(0, 2)] o o)
    exact ⟨hB_o, fr_o⟩
  ·
    refine T_qB (t_X12_in x2 0 3 (by omega) (by omega) (by omega)) (fun r3 hc_r3 hp3 => ?_)
    replace hp3 : ((r3 = 1 ∧ 0 ≤ x2 ∧ x2 ≤ 3) ∨ (r3 = 0 ∧ (x2 < 0 ∨ 3 < x2))) := hp3
    refine T_qEq ⟨by omega, by omega⟩ ⟨by decide, by decide⟩ (fun h4 => ?_) (fun h4 => ?_)
    ·
      unfold b_X12_who_31
      unfold b_X12_who_32
      refine T_some ?_
      show BoxM o ∧ (Fr [(0, 2)] o o)
      exact ⟨hB_o, fr_o⟩
    ·
      refine T_qB (t_X12_personTells o x1 x2 hB_o (by omega) (by omega)) (fun r5 hc_r5 hp5 => ?_)
      replace hp5 : (inR r5) := hp5
      refine T_qB2 (t_X12_ask o r5 1 hB_o) (fun r7 o9 hc_r7 hp6 => ?_)
      replace hp6 : BoxM o9 ∧ (Fr [(0, 2)] o o9) ∧ (r7 = 1) := hp6
      obtain ⟨hB_o9, fc_o9, hp6⟩ := hp6
      have fr_o9 : Fr [(0, 2)] o o9 := Fr.tr fr_o fc_o9 rfl
      have g0_27_o9 : o9.1 0 27 = o.1 0 27 := fc_o9.1 0 27 rfl
      unfold b_X12_who_32
      refine T_some ?_
      show BoxM o9 ∧ (Fr [(0, 2)] o o9)
      exact ⟨hB_o9, fr_o9⟩
set_option maxRecDepth 20000 in
set_option maxHeartbeats 4000000 in
theorem t_X12_why (o : OO) (x1 : Int) (x2 : Int) (x3 : Int) (hB_o : BoxM o) (k0 : inR x1) (k1 : inR x2) (k2 : inR x3) : T (s_X12_why o x1 x2 x3) (fun _ => True) := by
  have g0_10_o := bM_0_10 hB_o
  unfold s_X12_why
  refine T_qB (t_X12_isAsked x1 x2 x3 (by omega) (by omega) (by omega)) (fun r1 hc_r1 hp1 => ?_)
  replace hp1 : ((r1 = 1 ∧ 0 ≤ x1 ∧ x1 ≤ 7) ∨ r1 = 0) := hp1
  refine T_qEq ⟨by omega, by omega⟩ ⟨by decide, by decide⟩ (fun h2 => ?_) (fun h2 => ?_)
  ·
    unfold b_X12_why_20
    refine T_some ?_
    show True
    exact trivial
  ·
    refine T_qB (t_X12_ruleFor o x1 x2 x3 hB_o (by omega) (by omega) (by omega)) (fun r3 hc_r3 hp3 => ?_)
    replace hp3 : ((r3 = -9 ∨ (0 ≤ r3 ∧ 0 ≤ o.1 9 (8 * r3 + x1).toNat)) ∧ r3 < o.1 0 10) := hp3
    unfold b_X12_why_20
    refine T_some ?_
    show True
    exact trivial
set_option maxRecDepth 20000 in
set_option maxHeartbeats 4000000 in
theorem t_X12_worth (o : OO) (x1 : Int) (x2 : Int) (hB_o : BoxM o) (k0 : inR x1) (k1 : inR x2) : T (s_X12_worth o x1 x2) (fun v => BoxM v.2 ∧ (Fr [(0, 23), (18, 9999), (19, 9999), (20, 9999)] o v.2) ∧ (inR v.1) ∧ (HT o → HT v.2)) := by
  have fr_o : Fr [(0, 23), (18, 9999), (19, 9999), (20, 9999)] o o := Fr.rf
  have g0_23_o := bM_0_23 hB_o
  have g0_4_o := bM_0_4 hB_o
  have g0_17_o := bM_0_17 hB_o
  unfold s_X12_worth
  refine T_qB (t_X12_isBuilding o x1 hB_o (by omega)) (fun r1 hc_r1 hp1 => ?_)
  replace hp1 : ((r1 = 1 ∧ 0 ≤ x1 ∧ x1 < o.1 0 17) ∨ (r1 = 0 ∧ (x1 < 0 ∨ o.1 0 17 ≤ x1))) := hp1
  refine T_qEq ⟨by omega, by omega⟩ ⟨by decide, by decide⟩ (fun h2 => ?_) (fun h2 => ?_)
  ·
    unfold b_X12_worth_15
    refine T_some ?_
    show BoxM o ∧ (Fr [(0, 23), (18, 9999), (19, 9999), (20, 9999)] o o) ∧ (inR (-1)) ∧ (HT o → HT o)
    exact ⟨hB_o, fr_o, (by omega), (by first | exact (fun h => h) | assumption | omega)⟩
  ·
    refine T_qB (t_X12_isWorth x2 (by omega)) (fun r3 hc_r3 hp3 => ?_)
    replace hp3 : ((r3 = 1 ∧ 1 ≤ x2 ∧ x2 ≤ 100000) ∨ (r3 = 0 ∧ (x2 < 1 ∨ 100000 < x2))) := hp3
    refine T_qEq ⟨by omega, by omega⟩ ⟨by decide, by decide⟩ (fun h4 => ?_) (fun h4 => ?_)
    ·
      unfold b_X12_worth_15
      refine T_some ?_
      show BoxM o ∧ (Fr [(0, 23), (18, 9999), (19, 9999), (20, 9999)] o o) ∧ (inR (-1)) ∧ (HT o → HT o)
      exact ⟨hB_o, fr_o, (by omega), (by first | exact (fun h => h) | assumption | omega)⟩
    ·
      refine T_qIn ⟨by omega, by omega⟩ ?_
      refine T_qNm (fun n6 e_n6 => ?_)
      have b_n6 : 0 ≤ n6 ∧ n6 ≤ 1 := by rw [e_n6]; exact bM_16 hB_o _
      refine T_qEq ⟨by omega, by omega⟩ ⟨by decide, by decide⟩ (fun h5 => ?_) (fun h5 => ?_)
      ·
        refine T_qEq ⟨by omega, by omega⟩ ⟨by decide, by decide⟩ (fun h6 => ?_) (fun h6 => ?_)
        ·
          refine T_some ?_
          show BoxM o ∧ (Fr [(0, 23), (18, 9999), (19, 9999), (20, 9999)] o o) ∧ (inR (-2)) ∧ (HT o → HT o)
          exact ⟨hB_o, fr_o, (by omega), (by first | exact (fun h => h) | assumption | omega)⟩
        ·
          refine T_qB (t_X12_valueOf o x1 (o.1 0 4) hB_o (by omega) (by omega)) (fun r7 hc_r7 hp7 => ?_)
          replace hp7 : (-9 ≤ r7 ∧ r7 ≤ 100000) ∧ (r7 = -9 ∨ 0 ≤ r7) := hp7
          have hps_hp7 := hp7
          obtain ⟨hp7_0, hp7_1⟩ := hps_hp7
          replace hp7 := hid hp7
          refine T_qB (t_X12_tell o x1 x2 hB_o (by omega) (by omega) (by omega)) (fun o11 hc_o11 hp8 => ?_)
          replace hp8 : BoxM o11 ∧ (Fr [(0, 23), (18, 9999), (19, 9999), (20, 9999)] o o11) ∧ (o11.1 0 23 = o.1 0 23 + 1) ∧ (HT o → HT o11) ∧ (o11.1 18 (o.1 0 23).toNat = x1) := hp8
          obtain ⟨hB_o11, fc_o11, hp8⟩ := hp8
          have fr_o11 : Fr [(0, 23), (18, 9999), (19, 9999), (20, 9999)] o o11 := Fr.tr fr_o fc_o11 rfl
          have g0_23_o11 := bM_0_23 hB_o11
          have g0_4_o11 : o11.1 0 4 = o.1 0 4 := fc_o11.1 0 4 rfl
          have g0_17_o11 : o11.1 0 17 = o.1 0 17 := fc_o11.1 0 17 rfl
          have ht11 : HT o → HT o11 := hp8.2.1
          refine T_some ?_
          show BoxM o11 ∧ (Fr [(0, 23), (18, 9999), (19, 9999), (20, 9999)] o o11) ∧ (inR r7) ∧ (HT o → HT o11)
          exact ⟨hB_o11, fr_o11, (by omega), (by first | exact (fun h => h) | assumption | omega)⟩
      ·
        refine T_some ?_
        show BoxM o ∧ (Fr [(0, 23), (18, 9999), (19, 9999), (20, 9999)] o o) ∧ (inR (-4)) ∧ (HT o → HT o)
        exact ⟨hB_o, fr_o, (by omega), (by first | exact (fun h => h) | assumption | omega)⟩
