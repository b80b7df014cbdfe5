set_option maxRecDepth 20000 in
set_option maxHeartbeats 4000000 in
theorem t_X11_why (o : OO) (x1 : Int) (x2 : Int) (x3 : Int) (hB_o : BoxC o) (k0 : inR x1) (k1 : inR x2) (k2 : inR x3) : T (s_X11_why o x1 x2 x3) (fun _ => True) := by
  have g28_3_o := bC_28_3 hB_o
  unfold s_X11_why
  refine T_qB (t_X7_isLetter x1 (by omega)) (fun r1 hc_r1 hp1 => ?_)
  replace hp1 : ((r1 = 1 ∧ (0 ≤ x1 ∧ x1 < 8)) ∨ (r1 = 0 ∧ ¬ (0 ≤ x1 ∧ x1 < 8))) := hp1
  refine T_qEq ⟨by omega, by omega⟩ ⟨by decide, by decide⟩ (fun h2 => ?_) (fun h2 => ?_)
  ·
    unfold b_X11_why_21
    refine T_some ?_
    show True
    exact trivial
  ·
    refine T_qB (t_X11_isDay x2 (by omega)) (fun r3 hc_r3 hp3 => ?_)
    replace hp3 : ((r3 = 1 ∧ (0 ≤ x2 ∧ x2 ≤ 999)) ∨ (r3 = 0 ∧ ¬ (0 ≤ x2 ∧ x2 ≤ 999))) := hp3
    refine T_qEq ⟨by omega, by omega⟩ ⟨by decide, by decide⟩ (fun h4 => ?_) (fun h4 => ?_)
    ·
      unfold b_X11_why_21
      refine T_some ?_
      show True
      exact trivial
    ·
      refine T_qB (t_X11_isDay x3 (by omega)) (fun r5 hc_r5 hp5 => ?_)
      replace hp5 : ((r5 = 1 ∧ (0 ≤ x3 ∧ x3 ≤ 999)) ∨ (r5 = 0 ∧ ¬ (0 ≤ x3 ∧ x3 ≤ 999))) := hp5
      refine T_qEq ⟨by omega, by omega⟩ ⟨by decide, by decide⟩ (fun h6 => ?_) (fun h6 => ?_)
      ·
        unfold b_X11_why_21
        refine T_some ?_
        show True
        exact trivial
      ·
        refine T_qB (t_X7_deciding o x1 x2 x3 hB_o (by omega) (by omega) (by omega)) (fun r7 hc_r7 hp7 => ?_)
        replace hp7 : ((r7 = -9 ∨ (0 ≤ r7 ∧ ¬ o.1 31 (r7 * 8 + x1).toNat = -1)) ∧ r7 < o.1 28 3) := hp7
        refine T_some ?_
        show True
        exact trivial
set_option maxRecDepth 20000 in
set_option maxHeartbeats 4000000 in
theorem t_X11_worth (o : OO) (x1 : Int) (x2 : Int) (hB_o : BoxC o) (k0 : inR x1) (k1 : inR x2) : T (s_X11_worth o x1 x2) (fun v => BoxC v.2 ∧ (Fr [(10, 13), (16, 9999), (19, 9999), (20, 9999), (21, 9999)] o v.2) ∧ (inR v.1) ∧ (HTC o → HTC v.2)) := by
  have fr_o : Fr [(10, 13), (16, 9999), (19, 9999), (20, 9999), (21, 9999)] o o := Fr.rf
  have g0_13_o := bC_0_13 hB_o
  have g10_12_o := bC_10_12 hB_o
  have g10_13_o := bC_10_13 hB_o
  unfold s_X11_worth
  refine T_qB (t_X1_exists o x1 hB_o (by omega)) (fun r1 hc_r1 hp1 => ?_)
  replace hp1 : ((r1 = 1 ∧ (0 ≤ x1 ∧ x1 < o.1 10 12)) ∨ (r1 = 0 ∧ ¬ (0 ≤ x1 ∧ x1 < o.1 10 12))) := hp1
  refine T_qEq ⟨by omega, by omega⟩ ⟨by decide, by decide⟩ (fun h2 => ?_) (fun h2 => ?_)
  ·
    unfold b_X11_worth_18
    refine T_some ?_
    show BoxC o ∧ (Fr [(10, 13), (16, 9999), (19, 9999), (20, 9999), (21, 9999)] o o) ∧ (inR (-1)) ∧ (HTC o → HTC o)
    exact ⟨hB_o, fr_o, (by omega), (by first | exact (fun h => h) | assumption)⟩
  ·
    refine T_qB (t_X1_isWorth x2 (by omega)) (fun r3 hc_r3 hp3 => ?_)
    replace hp3 : ((r3 = 1 ∧ (1 ≤ x2 ∧ x2 ≤ 100000)) ∨ (r3 = 0 ∧ ¬ (1 ≤ x2 ∧ x2 ≤ 100000))) := hp3
    refine T_qEq ⟨by omega, by omega⟩ ⟨by decide, by decide⟩ (fun h4 => ?_) (fun h4 => ?_)
    ·
      unfold b_X11_worth_18
      refine T_some ?_
      show BoxC o ∧ (Fr [(10, 13), (16, 9999), (19, 9999), (20, 9999), (21, 9999)] o o) ∧ (inR (-1)) ∧ (HTC o → HTC o)
      exact ⟨hB_o, fr_o, (by omega), (by first | exact (fun h => h) | assumption)⟩
    ·
      refine T_qB (t_X1_isTaken o x1 hB_o (by omega)) (fun r5 hc_r5 hp5 => ?_)
      replace hp5 : (0 ≤ r5 ∧ r5 ≤ 1) ∧ (r5 = o.1 17 x1.toNat) := hp5
      have hps_hp5 := hp5
      obtain ⟨hp5_0, hp5_1⟩ := hps_hp5
      replace hp5 := hid hp5
      refine T_qEq ⟨by omega, by omega⟩ ⟨by decide, by decide⟩ (fun h6 => ?_) (fun h6 => ?_)
      ·
        refine T_qB (t_X1_tellingsLeft o hB_o) (fun r7 hc_r7 hp7 => ?_)
        replace hp7 : (r7 = 100 - o.1 10 13) := hp7
        refine T_qLt ⟨by omega, by omega⟩ ⟨by decide, by decide⟩ (fun h8 => ?_) (fun h8 => ?_)
        ·
          refine T_some ?_
          show BoxC o ∧ (Fr [(10, 13), (16, 9999), (19, 9999), (20, 9999), (21, 9999)] o o) ∧ (inR (-2)) ∧ (HTC o → HTC o)
          exact ⟨hB_o, fr_o, (by omega), (by first | exact (fun h => h) | assumption)⟩
        ·
          refine T_qB (t_X1_latestWorth o x1 hB_o (by omega)) (fun r9 hc_r9 hp9 => ?_)
          replace hp9 : (0 ≤ r9 ∧ r9 ≤ 100000) := hp9
          refine T_qB (t_X1_assess o x1 x2 (o.1 0 13) hB_o (by omega) (by omega) (by omega) (by omega)) (fun o13 hc_o13 hp10 => ?_)
          replace hp10 : BoxC o13 ∧ (Fr [(10, 13), (16, 9999), (19, 9999), (20, 9999), (21, 9999)] o o13) ∧ (o13.1 10 13 = o.1 10 13 + 1) ∧ (HTC o → HTC o13) ∧ (o13.1 19 (o.1 10 13).toNat = x1) ∧ (∀ k : Nat, (k : Int) < o.1 10 13 → o13.1 19 k = o.1 19 k) := hp10
          obtain ⟨hB_o13, fc_o13, hp10⟩ := hp10
          have fr_o13 : Fr [(10, 13), (16, 9999), (19, 9999), (20, 9999), (21, 9999)] o o13 := Fr.tr fr_o fc_o13 rfl
          have g0_13_o13 : o13.1 0 13 = o.1 0 13 := fc_o13.1 0 13 rfl
          have g10_12_o13 : o13.1 10 12 = o.1 10 12 := fc_o13.1 10 12 rfl
          have g10_13_o13 := bC_10_13 hB_o13
          have b1 : HTC o → HTC o13 := hp10.2.1
          refine T_some ?_
          show BoxC o13 ∧ (Fr [(10, 13), (16, 9999), (19, 9999), (20, 9999), (21, 9999)] o o13) ∧ (inR r9) ∧ (HTC o → HTC o13)
          exact ⟨hB_o13, fr_o13, (by omega), (by first | exact (fun h => h) | assumption)⟩
      ·
        refine T_some ?_
        show BoxC o ∧ (Fr [(10, 13), (16, 9999), (19, 9999), (20, 9999), (21, 9999)] o o) ∧ (inR (-4)) ∧ (HTC o → HTC o)
        exact ⟨hB_o, fr_o, (by omega), (by first | exact (fun h => h) | assumption)⟩
