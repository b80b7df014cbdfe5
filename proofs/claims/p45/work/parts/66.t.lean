set_option maxRecDepth 20000 in
set_option maxHeartbeats 4000000 in
theorem t_X12_costOf (o : OO) (x1 : Int) (x2 : Int) (hB_o : BoxM o) (k0 : 0 ≤ x1 ∧ x1 ≤ 63) (k1 : 0 ≤ x2 ∧ x2 ≤ 5) (k2 : ∀ k : Int, 0 ≤ k → k < 4 → 0 ≤ o.1 3 (40 * x2 + k).toNat ∧ o.1 3 (40 * x2 + k).toNat ≤ 1000) (k3 : ¬ o.1 11 x1.toNat = 4) : T (s_X12_costOf o x1 x2) (fun v => (0 ≤ v ∧ v ≤ 2000)) := by
  have g0_4_o := bM_0_4 hB_o
  have g0_17_o := bM_0_17 hB_o
  unfold s_X12_costOf
  refine T_qB (t_X12_on o x1 hB_o (by omega)) (fun r1 hc_r1 hp1 => ?_)
  replace hp1 : ((r1 = -9 ∨ 0 ≤ r1) ∧ r1 < o.1 0 17) := hp1
  refine T_qIn ⟨by omega, by omega⟩ ?_
  refine T_qNm (fun n4 e_n4 => ?_)
  have b_n4 : 0 ≤ n4 ∧ n4 ≤ 4 := by rw [e_n4]; exact bM_11 hB_o _
  refine T_qIn ⟨by omega, by omega⟩ ?_
  refine T_qNm (fun n6 e_n6 => ?_)
  have b_n6 : -2147483648 ≤ n6 ∧ n6 ≤ 2147483647 := by rw [e_n6]; exact bM_3 hB_o _
  have hq8 := k2 n4 (by omega) (by omega)
  refine T_qLt ⟨by omega, by omega⟩ ⟨by decide, by decide⟩ (fun h2 => ?_) (fun h2 => ?_)
  ·
    unfold b_X12_costOf_42
    refine T_some ?_
    show (0 ≤ (n6 + 0) ∧ (n6 + 0) ≤ 2000)
    exact (by omega)
  ·
    refine T_qB (t_X12_valueOf o r1 (o.1 0 4) hB_o (by omega) (by omega)) (fun r7 hc_r7 hp3 => ?_)
    replace hp3 : (-9 ≤ r7 ∧ r7 ≤ 100000) ∧ (r7 = -9 ∨ 0 ≤ r7) := hp3
    have hps_hp3 := hp3
    obtain ⟨hp3_0, hp3_1⟩ := hps_hp3
    replace hp3 := hid hp3
    refine T_qDv ⟨⟨by omega, by omega⟩, ⟨by decide, by decide⟩, by decide⟩ ?_
    have jd4 := jq_or (a := r7) (b := 100)
    unfold b_X12_costOf_42
    refine T_some ?_
    show (0 ≤ (n6 + (jq r7 100)) ∧ (n6 + (jq r7 100)) ≤ 2000)
    exact (by omega)
set_option maxRecDepth 20000 in
set_option maxHeartbeats 4000000 in
theorem t_X12_slope (o : OO) (x1 : Int) (x2 : Int) (hB_o : BoxM o) (k0 : 0 ≤ x1 ∧ x1 ≤ 63) (k1 : 0 ≤ x2 ∧ x2 ≤ 63) : T (s_X12_slope o x1 x2) (fun v => (0 ≤ v ∧ v ≤ 99) ∧ (v = SV o x1 x2)) := by
  unfold s_X12_slope
  refine T_qIn ⟨by omega, by omega⟩ ?_
  refine T_qNm (fun n2 e_n2 => ?_)
  have b_n2 : 0 ≤ n2 ∧ n2 ≤ 99 := by rw [e_n2]; exact bM_12 hB_o _
  refine T_qIn ⟨by omega, by omega⟩ ?_
  refine T_qNm (fun n4 e_n4 => ?_)
  have b_n4 : 0 ≤ n4 ∧ n4 ≤ 99 := by rw [e_n4]; exact bM_12 hB_o _
  refine T_qNm (fun n5 e_n5 => ?_)
  have sv5 := SV_eq e_n2 e_n4 e_n5
  refine T_qLt ⟨by omega, by omega⟩ ⟨by decide, by decide⟩ (fun h1 => ?_) (fun h1 => ?_)
  ·
    unfold b_X12_slope_24
    refine T_some ?_
    show (0 ≤ (-n5) ∧ (-n5) ≤ 99) ∧ ((-n5) = SV o x1 x2)
    exact ⟨(by omega), (by first | exact sv5.1 (by omega) | exact sv5.2 (by omega)| fail)⟩
  ·
    unfold b_X12_slope_24
    refine T_some ?_
    show (0 ≤ n5 ∧ n5 ≤ 99) ∧ (n5 = SV o x1 x2)
    exact ⟨(by omega), (by first | exact sv5.1 (by omega) | exact sv5.2 (by omega)| fail)⟩
set_option maxRecDepth 20000 in
set_option maxHeartbeats 4000000 in
theorem t_X12_leads (o : OO) (x1 : Int) (x2 : Int) (x3 : Int) (hB_o : BoxM o) (k0 : 0 ≤ x1 ∧ x1 ≤ 63) (k1 : -9 ≤ x2 ∧ x2 ≤ 63) (k2 : inR x3) : T (s_X12_leads o x1 x2 x3) (fun v => ((v = 1 ∧ 0 ≤ x2) ∨ v = 0)) := by
  unfold s_X12_leads
  refine T_qLt ⟨by omega, by omega⟩ ⟨by decide, by decide⟩ (fun h1 => ?_) (fun h1 => ?_)
  ·
    unfold b_X12_leads_38
    unfold b_X12_leads_39
    refine T_qZ (Or.inl rfl) ?_
    refine T_some ?_
    show ((0 = 1 ∧ 0 ≤ x2) ∨ 0 = 0)
    exact (by omega)
  ·
    refine T_qIn ⟨by omega, by omega⟩ ?_
    refine T_qNm (fun n2 e_n2 => ?_)
    have b_n2 : 0 ≤ n2 ∧ n2 ≤ 4 := by rw [e_n2]; exact bM_11 hB_o _
    refine T_qEq ⟨by omega, by omega⟩ ⟨by decide, by decide⟩ (fun h2 => ?_) (fun h2 => ?_)
    ·
      unfold b_X12_leads_38
      unfold b_X12_leads_39
      refine T_qZ (Or.inl rfl) ?_
      refine T_some ?_
      show ((0 = 1 ∧ 0 ≤ x2) ∨ 0 = 0)
      exact (by omega)
    ·
      refine T_qIn ⟨by omega, by omega⟩ ?_
      refine T_qNm (fun n4 e_n4 => ?_)
      have b_n4 : 0 ≤ n4 ∧ n4 ≤ 4 := by rw [e_n4]; exact bM_11 hB_o _
      refine T_qEq ⟨by omega, by omega⟩ ⟨by decide, by decide⟩ (fun h3 => ?_) (fun h3 => ?_)
      ·
        unfold b_X12_leads_38
        unfold b_X12_leads_39
        refine T_qZ (Or.inl rfl) ?_
        refine T_some ?_
        show ((0 = 1 ∧ 0 ≤ x2) ∨ 0 = 0)
        exact (by omega)
      ·
        refine T_qB (t_X12_slope o x1 x2 hB_o (by omega) (by omega)) (fun r5 hc_r5 hp4 => ?_)
        replace hp4 : (0 ≤ r5 ∧ r5 ≤ 99) ∧ (r5 = SV o x1 x2) := hp4
        have hps_hp4 := hp4
        obtain ⟨hp4_0, hp4_1⟩ := hps_hp4
        replace hp4 := hid hp4
        refine T_qLt ⟨by omega, by omega⟩ ⟨by omega, by omega⟩ (fun h5 => ?_) (fun h5 => ?_)
        ·
          unfold b_X12_leads_38
          unfold b_X12_leads_39
          refine T_qZ (Or.inl rfl) ?_
          refine T_some ?_
          show ((0 = 1 ∧ 0 ≤ x2) ∨ 0 = 0)
          exact (by omega)
        ·
          unfold b_X12_leads_39
          refine T_qZ (Or.inr rfl) ?_
          refine T_some ?_
          show ((1 = 1 ∧ 0 ≤ x2) ∨ 1 = 0)
          exact (by omega)
set_option maxRecDepth 20000 in
set_option maxHeartbeats 4000000 in
theorem t_X12_goOn (o : OO) (x1 : Int) (x2 : Int) (x3 : Int) (x4 : Int) (hB_o : BoxM o) (k0 : 0 ≤ x1 ∧ x1 ≤ 63) (k1 : 0 ≤ x2 ∧ x2 ≤ 4) (k2 : 0 ≤ x3 ∧ x3 ≤ 3) (k3 : 0 ≤ x4 ∧ x4 ≤ 63) : T (s_X12_goOn o x1 x2 x3 x4) (fun v => (0 ≤ v ∧ v ≤ 100100000) ∧ (v = GV o x1 x2 x3 x4)) := by
  have tn4 : x2 < 4 → x2 = x3 → TN x2 x3 = 0 := fun a b => by unfold TN; rw [if_pos a, if_pos b]
  have tn5 : x2 < 4 → ¬ x2 = x3 → TN x2 x3 = 5 := fun a b => by unfold TN; rw [if_pos a, if_neg b]
  have tn0 : ¬ x2 < 4 → TN x2 x3 = 0 := fun a => by unfold TN; rw [if_neg a]
  have gv9 : GV o x1 x2 x3 x4 = 10 * SV o x1 x4 + o.1 39 x4.toNat + TN x2 x3 + o.1 38 (5 * x4 + x3).toNat := rfl
  unfold s_X12_goOn
  refine T_qB (t_X12_slope o x1 x4 hB_o (by omega) (by omega)) (fun r3 hc_r3 hp1 => ?_)
  replace hp1 : (0 ≤ r3 ∧ r3 ≤ 99) ∧ (r3 = SV o x1 x4) := hp1
  have hps_hp1 := hp1
  obtain ⟨hp1_0, hp1_1⟩ := hps_hp1
  replace hp1 := hid hp1
  refine T_qIn ⟨by omega, by omega⟩ ?_
  refine T_qNm (fun n6 e_n6 => ?_)
  have b_n6 : 0 ≤ n6 ∧ n6 ≤ 2000 := by rw [e_n6]; exact bM_39 hB_o _
  refine T_qLt ⟨by omega, by omega⟩ ⟨by decide, by decide⟩ (fun h2 => ?_) (fun h2 => ?_)
  ·
    refine T_qEq ⟨by omega, by omega⟩ ⟨by omega, by omega⟩ (fun h3 => ?_) (fun h3 => ?_)
    ·
      unfold b_X12_goOn_32
      unfold b_X12_goOn_33
      refine T_qIn ⟨by omega, by omega⟩ ?_
      refine T_qNm (fun n2 e_n2 => ?_)
      have b_n2 : 0 ≤ n2 ∧ n2 ≤ 100000000 := by rw [e_n2]; exact bM_38 hB_o _
      refine T_some ?_
      show (0 ≤ ((((10 * r3) + n6) + 0) + n2) ∧ ((((10 * r3) + n6) + 0) + n2) ≤ 100100000) ∧ (((((10 * r3) + n6) + 0) + n2) = GV o x1 x2 x3 x4)
      exact ⟨(by omega), (by omega)⟩
    ·
      unfold b_X12_goOn_33
      refine T_qIn ⟨by omega, by omega⟩ ?_
      refine T_qNm (fun n2 e_n2 => ?_)
      have b_n2 : 0 ≤ n2 ∧ n2 ≤ 100000000 := by rw [e_n2]; exact bM_38 hB_o _
      refine T_some ?_
      show (0 ≤ ((((10 * r3) + n6) + 5) + n2) ∧ ((((10 * r3) + n6) + 5) + n2) ≤ 100100000) ∧ (((((10 * r3) + n6) + 5) + n2) = GV o x1 x2 x3 x4)
      exact ⟨(by omega), (by omega)⟩
  ·
    unfold b_X12_goOn_32
    unfold b_X12_goOn_33
    refine T_qIn ⟨by omega, by omega⟩ ?_
    refine T_qNm (fun n2 e_n2 => ?_)
    have b_n2 : 0 ≤ n2 ∧ n2 ≤ 100000000 := by rw [e_n2]; exact bM_38 hB_o _
    refine T_some ?_
    show (0 ≤ ((((10 * r3) + n6) + 0) + n2) ∧ ((((10 * r3) + n6) + 0) + n2) ≤ 100100000) ∧ (((((10 * r3) + n6) + 0) + n2) = GV o x1 x2 x3 x4)
    exact ⟨(by omega), (by omega)⟩
set_option maxRecDepth 20000 in
set_option maxHeartbeats 4000000 in
theorem tl_X12_setLeft_2 (x1 : Int) (x2 : Int) (i_o : OO) (i_x3 : Int) (hB_i_o : BoxM i_o) (k0 : 0 ≤ x1 ∧ x1 ≤ 63) (v0 : 0 ≤ i_x3 ∧ i_x3 ≤ 320) (v1 : INI i_o x1 i_x3) : T (loopW (fun s => l_X12_setLeft_2 x1 x2 s.1 s.2) (i_o, i_x3)) (fun r => BoxM r ∧ (Fr [(38, 9999)] i_o r) ∧ (INI r x1 320)) := by
  have fr_i_o : Fr [(38, 9999)] i_o i_o := Fr.rf
  refine T_loop (fun s => BoxM s.1 ∧ (Fr [(38, 9999)] i_o s.1) ∧ (0 ≤ s.2 ∧ s.2 ≤ 320) ∧ (INI s.1 x1 s.2)) (fun s => (320 - s.2).toNat) (by exact ⟨hB_i_o, fr_i_o, v0, v1⟩) (fun s hs => ?_)
  obtain ⟨o, x3⟩ := s
  replace hs : BoxM o ∧ (Fr [(38, 9999)] i_o o) ∧ (0 ≤ x3 ∧ x3 ≤ 320) ∧ (INI o x1 x3) := hs
  obtain ⟨hB_o, fr_o, w0, w1⟩ := hs
  show T (l_X12_setLeft_2 x1 x2 o x3) _
  unfold l_X12_setLeft_2
  refine T_qLt ⟨by omega, by omega⟩ ⟨by decide, by decide⟩ (fun h1 => ?_) (fun h1 => ?_)
  ·
    refine T_qDv ⟨⟨by omega, by omega⟩, ⟨by decide, by decide⟩, by decide⟩ ?_
    have jd2 : jq x3 5 = x3 / 5 := jq_nn (by omega)
    refine T_qEq ⟨by omega, by omega⟩ ⟨by omega, by omega⟩ (fun h3 => ?_) (fun h3 => ?_)
    ·
      unfold b_X12_setLeft_28
      refine T_qIn ⟨by omega, by omega⟩ ?_
      refine T_qNm (fun o18 e_o18 => ?_)
      have hB_o18 : BoxM o18 := by rw [e_o18]; exact Box.s1 hB_o (show 0 ≤ 0 ∧ 0 ≤ 100000000 from ⟨by omega, by omega⟩)
      have fr_o18 : Fr [(38, 9999)] i_o o18 := by rw [e_o18]; exact Fr.s1 fr_o rfl
      have sl_o18 : SL o18 = SL o - o.1 38 x3.toNat + 0 := by rw [e_o18]; exact SL_upd (by omega)
      have ini9 : INI o18 x1 (x3 + 1) := by rw [e_o18]; exact INI_s w1 (by omega) (by omega)
      refine T_some ?_
      show (BoxM o18 ∧ (Fr [(38, 9999)] i_o o18) ∧ (0 ≤ (x3 + 1) ∧ (x3 + 1) ≤ 320) ∧ (INI o18 x1 (x3 + 1))) ∧ (320 - (x3 + 1)).toNat < (320 - x3).toNat
      exact ⟨⟨hB_o18, fr_o18, (by omega), (by first | assumption | exact INI_0 | (have q9 := w1; rwa [show x3 = 320 by omega] at q9)| fail)⟩, by omega⟩
    ·
      unfold b_X12_setLeft_28
      refine T_qIn ⟨by omega, by omega⟩ ?_
      refine T_qNm (fun o18 e_o18 => ?_)
      have hB_o18 : BoxM o18 := by rw [e_o18]; exact Box.s1 hB_o (show 0 ≤ 100000000 ∧ 100000000 ≤ 100000000 from ⟨by omega, by omega⟩)
      have fr_o18 : Fr [(38, 9999)] i_o o18 := by rw [e_o18]; exact Fr.s1 fr_o rfl
      have sl_o18 : SL o18 = SL o - o.1 38 x3.toNat + 100000000 := by rw [e_o18]; exact SL_upd (by omega)
      have ini9 : INI o18 x1 (x3 + 1) := by rw [e_o18]; exact INI_s w1 (by omega) (by omega)
      refine T_some ?_
      show (BoxM o18 ∧ (Fr [(38, 9999)] i_o o18) ∧ (0 ≤ (x3 + 1) ∧ (x3 + 1) ≤ 320) ∧ (INI o18 x1 (x3 + 1))) ∧ (320 - (x3 + 1)).toNat < (320 - x3).toNat
      exact ⟨⟨hB_o18, fr_o18, (by omega), (by first | assumption | exact INI_0 | (have q9 := w1; rwa [show x3 = 320 by omega] at q9)| fail)⟩, by omega⟩
  ·
    refine T_some ?_
    show BoxM o ∧ (Fr [(38, 9999)] i_o o) ∧ (INI o x1 320)
    exact ⟨hB_o, fr_o, (by first | assumption | exact INI_0 | (have q9 := w1; rwa [show x3 = 320 by omega] at q9)| fail)⟩
set_option maxRecDepth 20000 in
set_option maxHeartbeats 4000000 in
theorem tl_X12_setLeft_110 (x1 : Int) (x2 : Int) (x4 : Int) (x5 : Int) (x6 : Int) (i_o : OO) (i_x3 : Int) (i_x7 : Int) (hB_i_o : BoxM i_o) (k0 : 0 ≤ x1 ∧ x1 ≤ 63) (k1 : 0 ≤ x2 ∧ x2 ≤ 9999) (k2 : 0 ≤ x4 ∧ x4 ≤ 63) (k3 : 0 ≤ x5 ∧ x5 ≤ 3) (k4 : 0 ≤ x6 ∧ x6 ≤ 63) (k5 : ¬ x4 = x1) (k6 : x6 = bsd x4 x5) (k7 : LD i_o x4 x6 x2) (k8 : FN i_o (5 * x6 + x5)) (v0 : 0 ≤ i_x3 ∧ i_x3 ≤ 1) (v1 : 0 ≤ i_x7 ∧ i_x7 ≤ 5) (v2 : (i_x3 = i_x3 ∧ SL i_o = SL i_o) ∨ (i_x3 = 1 ∧ SL i_o < SL i_o)) (v3 : SBI i_o x1 x2) (v4 : ∀ k, i_o.1 38 k ≤ i_o.1 38 k) (v5 : (0 : Int) = i_x3 → (0 : Int) = i_x3 ∧ (∀ j, i_o.1 38 j = i_o.1 38 j)) (v6 : (0 : Int) = i_x3 → CKW i_o x4 x5 x6 i_x7) : T (loopW (fun s => l_X12_setLeft_110 x1 x2 x4 x5 x6 s.1 s.2.1 s.2.2) (i_o, i_x3, i_x7)) (fun r => BoxM r.1 ∧ (Fr [(38, 9999)] i_o r.1) ∧ (0 ≤ r.2 ∧ r.2 ≤ 1) ∧ ((r.2 = i_x3 ∧ SL r.1 = SL i_o) ∨ (r.2 = 1 ∧ SL r.1 < SL i_o)) ∧ (SBI r.1 x1 x2) ∧ ((0 : Int) = r.2 → (0 : Int) = i_x3 ∧ (∀ j, r.1.1 38 j = i_o.1 38 j)) ∧ ((0 : Int) = r.2 → CKW r.1 x4 x5 x6 5)) := by
  have fr_i_o : Fr [(38, 9999)] i_o i_o := Fr.rf
  refine T_loop (fun s => BoxM s.1 ∧ (Fr [(38, 9999)] i_o s.1) ∧ (0 ≤ s.2.1 ∧ s.2.1 ≤ 1) ∧ (0 ≤ s.2.2 ∧ s.2.2 ≤ 5) ∧ ((s.2.1 = i_x3 ∧ SL s.1 = SL i_o) ∨ (s.2.1 = 1 ∧ SL s.1 < SL i_o)) ∧ (SBI s.1 x1 x2) ∧ (∀ k, s.1.1 38 k ≤ i_o.1 38 k) ∧ ((0 : Int) = s.2.1 → (0 : Int) = i_x3 ∧ (∀ j, s.1.1 38 j = i_o.1 38 j)) ∧ ((0 : Int) = s.2.1 → CKW s.1 x4 x5 x6 s.2.2)) (fun s => (5 - s.2.2).toNat) (by exact ⟨hB_i_o, fr_i_o, v0, v1, v2, v3, v4, v5, v6⟩) (fun s hs => ?_)
  obtain ⟨o, x3, x7⟩ := s
  replace hs : BoxM o ∧ (Fr [(38, 9999)] i_o o) ∧ (0 ≤ x3 ∧ x3 ≤ 1) ∧ (0 ≤ x7 ∧ x7 ≤ 5) ∧ ((x3 = i_x3 ∧ SL o = SL i_o) ∨ (x3 = 1 ∧ SL o < SL i_o)) ∧ (SBI o x1 x2) ∧ (∀ k, o.1 38 k ≤ i_o.1 38 k) ∧ ((0 : Int) = x3 → (0 : Int) = i_x3 ∧ (∀ j, o.1 38 j = i_o.1 38 j)) ∧ ((0 : Int) = x3 → CKW o x4 x5 x6 x7) := hs
  obtain ⟨hB_o, fr_o, w0, w1, w2, w3, w4, w5, w6⟩ := hs
  have u9 : U38 i_o o := U38.of fr_o (fun _ => rfl) (fun _ => rfl) (fun _ => rfl) w4
  have ld9 : LD o x4 x6 x2 := LD.cg u9 (by assumption)
  have fn9 : FN o (5 * x6 + x5) := FN.mono u9 (by assumption)
  show T (l_X12_setLeft_110 x1 x2 x4 x5 x6 o x3 x7) _
  unfold l_X12_setLeft_110
  refine T_qLt ⟨by omega, by omega⟩ ⟨by decide, by decide⟩ (fun h4 => ?_) (fun h4 => ?_)
  ·
    refine T_qB (t_X12_goOn o x4 x7 x5 x6 hB_o (by omega) (by omega) (by omega) (by omega)) (fun r7 hc_r7 hp5 => ?_)
    replace hp5 : (0 ≤ r7 ∧ r7 ≤ 100100000) ∧ (r7 = GV o x4 x7 x5 x6) := hp5
    have hps_hp5 := hp5
    obtain ⟨hp5_0, hp5_1⟩ := hps_hp5
    replace hp5 := hid hp5
    refine T_qEq ⟨by omega, by omega⟩ ⟨by decide, by decide⟩ (fun h6 => ?_) (fun h6 => ?_)
    ·
      refine T_qIn ⟨by omega, by omega⟩ ?_
      refine T_qNm (fun n10 e_n10 => ?_)
      have b_n10 : 0 ≤ n10 ∧ n10 ≤ 100000000 := by rw [e_n10]; exact bM_38 hB_o _
      refine T_qLt ⟨by omega, by omega⟩ ⟨by omega, by omega⟩ (fun h7 => ?_) (fun h7 => ?_)
      ·
        unfold b_X12_setLeft_151
        unfold b_X12_setLeft_156
        refine T_qIn ⟨by omega, by omega⟩ ?_
        refine T_qNm (fun n4 e_n4 => ?_)
        have b_n4 : 0 ≤ n4 ∧ n4 ≤ 100000000 := by rw [e_n4]; exact bM_38 hB_o _
        refine T_qLt ⟨by omega, by omega⟩ ⟨by omega, by omega⟩ (fun h8 => ?_) (fun h8 => ?_)
        ·
          unfold b_X12_setLeft_202
          refine T_qIn ⟨by omega, by omega⟩ ?_
          refine T_qNm (fun o2 e_o2 => ?_)
          have hB_o2 : BoxM o2 := by rw [e_o2]; exact Box.s1 hB_o (show 0 ≤ r7 ∧ r7 ≤ 100000000 from ⟨by omega, by omega⟩)
          have fr_o2 : Fr [(38, 9999)] i_o o2 := by rw [e_o2]; exact Fr.s1 fr_o rfl
          have sl_o2 : SL o2 = SL o - o.1 38 ((5 * x4) + x7).toNat + r7 := by rw [e_o2]; exact SL_upd (by omega)
          have sb2 : SBI o2 x1 x2 := by rw [e_o2]; exact SBI_step hB_o w3 (by omega) (by omega) (by omega) (by omega) (by omega) (show x6 = bsd x4 x5 by assumption) (by omega) ld9 fn9 (by omega)
          have de2 : ∀ k, o2.1 38 k ≤ o.1 38 k := by rw [e_o2]; exact (U38_st (by omega)).2.2.2
          have sa2 : r7 = o.1 38 (5 * x4 + x7).toNat → ∀ k, o2.1 38 k = o.1 38 k := fun e => by rw [e_o2]; exact st38_same e
          have u2 : U38 o o2 := by rw [e_o2]; exact U38_st (by omega)
          refine T_some ?_
          show (BoxM o2 ∧ (Fr [(38, 9999)] i_o o2) ∧ (0 ≤ 1 ∧ 1 ≤ 1) ∧ (0 ≤ (x7 + 1) ∧ (x7 + 1) ≤ 5) ∧ ((1 = i_x3 ∧ SL o2 = SL i_o) ∨ (1 = 1 ∧ SL o2 < SL i_o)) ∧ (SBI o2 x1 x2) ∧ (∀ k, o2.1 38 k ≤ i_o.1 38 k) ∧ ((0 : Int) = 1 → (0 : Int) = i_x3 ∧ (∀ j, o2.1 38 j = i_o.1 38 j)) ∧ ((0 : Int) = 1 → CKW o2 x4 x5 x6 (x7 + 1))) ∧ (5 - (x7 + 1)).toNat < (5 - x7).toNat
          exact ⟨⟨hB_o2, fr_o2, (by omega), (by omega), (by omega), (by first | assumption | exact SBI_0 (by omega) (by assumption)| fail), (by first | assumption | exact (fun _ => Int.le_refl _) | exact (fun k => Int.le_trans (de2 k) (w4 k))| fail), (by first | assumption | exact (fun e => absurd e (by decide)) | exact (fun e => ⟨e, fun _ => rfl⟩) | exact (fun e => ⟨(w5 (by omega)).1, fun j => (sa2 (by omega) j).trans ((w5 (by omega)).2 j)⟩) | exact (fun e => ⟨(w4 (sam9 e).1).1, fun j => ((sam9 e).2 j).trans ((w4 (sam9 e).1).2 j)⟩)| fail), (by first | assumption | exact (fun e => absurd e (by decide)) | exact (fun _ => CKW_0) | exact (fun e => CKW_s u2 (sa2 (by omega)) (w6 (by omega)) (by omega)) | (intro e; have q9 := w6 e; rwa [show x7 = 5 by omega] at q9)| fail)⟩, by omega⟩
        ·
          refine T_qIn ⟨by omega, by omega⟩ ?_
          refine T_qNm (fun n6 e_n6 => ?_)
          have b_n6 : 0 ≤ n6 ∧ n6 ≤ 100000000 := by rw [e_n6]; exact bM_38 hB_o _
          unfold b_X12_setLeft_202
          refine T_qIn ⟨by omega, by omega⟩ ?_
          refine T_qNm (fun o2 e_o2 => ?_)
          have hB_o2 : BoxM o2 := by rw [e_o2]; exact Box.s1 hB_o (show 0 ≤ n6 ∧ n6 ≤ 100000000 from ⟨by omega, by omega⟩)
          have fr_o2 : Fr [(38, 9999)] i_o o2 := by rw [e_o2]; exact Fr.s1 fr_o rfl
          have sl_o2 : SL o2 = SL o - o.1 38 ((5 * x4) + x7).toNat + n6 := by rw [e_o2]; exact SL_upd (by omega)
          have sb2 : SBI o2 x1 x2 := by rw [e_o2]; exact SBI_step hB_o w3 (by omega) (by omega) (by omega) (by omega) (by omega) (show x6 = bsd x4 x5 by assumption) (by omega) ld9 fn9 (by omega)
          have de2 : ∀ k, o2.1 38 k ≤ o.1 38 k := by rw [e_o2]; exact (U38_st (by omega)).2.2.2
          have sa2 : n6 = o.1 38 (5 * x4 + x7).toNat → ∀ k, o2.1 38 k = o.1 38 k := fun e => by rw [e_o2]; exact st38_same e
          have u2 : U38 o o2 := by rw [e_o2]; exact U38_st (by omega)
          refine T_some ?_
          show (BoxM o2 ∧ (Fr [(38, 9999)] i_o o2) ∧ (0 ≤ 1 ∧ 1 ≤ 1) ∧ (0 ≤ (x7 + 1) ∧ (x7 + 1) ≤ 5) ∧ ((1 = i_x3 ∧ SL o2 = SL i_o) ∨ (1 = 1 ∧ SL o2 < SL i_o)) ∧ (SBI o2 x1 x2) ∧ (∀ k, o2.1 38 k ≤ i_o.1 38 k) ∧ ((0 : Int) = 1 → (0 : Int) = i_x3 ∧ (∀ j, o2.1 38 j = i_o.1 38 j)) ∧ ((0 : Int) = 1 → CKW o2 x4 x5 x6 (x7 + 1))) ∧ (5 - (x7 + 1)).toNat < (5 - x7).toNat
          exact ⟨⟨hB_o2, fr_o2, (by omega), (by omega), (by omega), (by first | assumption | exact SBI_0 (by omega) (by assumption)| fail), (by first | assumption | exact (fun _ => Int.le_refl _) | exact (fun k => Int.le_trans (de2 k) (w4 k))| fail), (by first | assumption | exact (fun e => absurd e (by decide)) | exact (fun e => ⟨e, fun _ => rfl⟩) | exact (fun e => ⟨(w5 (by omega)).1, fun j => (sa2 (by omega) j).trans ((w5 (by omega)).2 j)⟩) | exact (fun e => ⟨(w4 (sam9 e).1).1, fun j => ((sam9 e).2 j).trans ((w4 (sam9 e).1).2 j)⟩)| fail), (by first | assumption | exact (fun e => absurd e (by decide)) | exact (fun _ => CKW_0) | exact (fun e => CKW_s u2 (sa2 (by omega)) (w6 (by omega)) (by omega)) | (intro e; have q9 := w6 e; rwa [show x7 = 5 by omega] at q9)| fail)⟩, by omega⟩
      ·
        unfold b_X12_setLeft_156
        refine T_qIn ⟨by omega, by omega⟩ ?_
        refine T_qNm (fun n4 e_n4 => ?_)
        have b_n4 : 0 ≤ n4 ∧ n4 ≤ 100000000 := by rw [e_n4]; exact bM_38 hB_o _
        refine T_qLt ⟨by omega, by omega⟩ ⟨by omega, by omega⟩ (fun h9 => ?_) (fun h9 => ?_)
        ·
          unfold b_X12_setLeft_202
          refine T_qIn ⟨by omega, by omega⟩ ?_
          refine T_qNm (fun o2 e_o2 => ?_)
          have hB_o2 : BoxM o2 := by rw [e_o2]; exact Box.s1 hB_o (show 0 ≤ r7 ∧ r7 ≤ 100000000 from ⟨by omega, by omega⟩)
          have fr_o2 : Fr [(38, 9999)] i_o o2 := by rw [e_o2]; exact Fr.s1 fr_o rfl
          have sl_o2 : SL o2 = SL o - o.1 38 ((5 * x4) + x7).toNat + r7 := by rw [e_o2]; exact SL_upd (by omega)
          have sb2 : SBI o2 x1 x2 := by rw [e_o2]; exact SBI_step hB_o w3 (by omega) (by omega) (by omega) (by omega) (by omega) (show x6 = bsd x4 x5 by assumption) (by omega) ld9 fn9 (by omega)
          have de2 : ∀ k, o2.1 38 k ≤ o.1 38 k := by rw [e_o2]; exact (U38_st (by omega)).2.2.2
          have sa2 : r7 = o.1 38 (5 * x4 + x7).toNat → ∀ k, o2.1 38 k = o.1 38 k := fun e => by rw [e_o2]; exact st38_same e
          have u2 : U38 o o2 := by rw [e_o2]; exact U38_st (by omega)
          refine T_some ?_
          show (BoxM o2 ∧ (Fr [(38, 9999)] i_o o2) ∧ (0 ≤ 0 ∧ 0 ≤ 1) ∧ (0 ≤ (x7 + 1) ∧ (x7 + 1) ≤ 5) ∧ ((0 = i_x3 ∧ SL o2 = SL i_o) ∨ (0 = 1 ∧ SL o2 < SL i_o)) ∧ (SBI o2 x1 x2) ∧ (∀ k, o2.1 38 k ≤ i_o.1 38 k) ∧ ((0 : Int) = 0 → (0 : Int) = i_x3 ∧ (∀ j, o2.1 38 j = i_o.1 38 j)) ∧ ((0 : Int) = 0 → CKW o2 x4 x5 x6 (x7 + 1))) ∧ (5 - (x7 + 1)).toNat < (5 - x7).toNat
          exact ⟨⟨hB_o2, fr_o2, (by omega), (by omega), (by omega), (by first | assumption | exact SBI_0 (by omega) (by assumption)| fail), (by first | assumption | exact (fun _ => Int.le_refl _) | exact (fun k => Int.le_trans (de2 k) (w4 k))| fail), (by first | assumption | exact (fun e => absurd e (by decide)) | exact (fun e => ⟨e, fun _ => rfl⟩) | exact (fun e => ⟨(w5 (by omega)).1, fun j => (sa2 (by omega) j).trans ((w5 (by omega)).2 j)⟩) | exact (fun e => ⟨(w4 (sam9 e).1).1, fun j => ((sam9 e).2 j).trans ((w4 (sam9 e).1).2 j)⟩)| fail), (by first | assumption | exact (fun e => absurd e (by decide)) | exact (fun _ => CKW_0) | exact (fun e => CKW_s u2 (sa2 (by omega)) (w6 (by omega)) (by omega)) | (intro e; have q9 := w6 e; rwa [show x7 = 5 by omega] at q9)| fail)⟩, by omega⟩
        ·
          refine T_qIn ⟨by omega, by omega⟩ ?_
          refine T_qNm (fun n6 e_n6 => ?_)
          have b_n6 : 0 ≤ n6 ∧ n6 ≤ 100000000 := by rw [e_n6]; exact bM_38 hB_o _
          unfold b_X12_setLeft_202
          refine T_qIn ⟨by omega, by omega⟩ ?_
          refine T_qNm (fun o2 e_o2 => ?_)
          have hB_o2 : BoxM o2 := by rw [e_o2]; exact Box.s1 hB_o (show 0 ≤ n6 ∧ n6 ≤ 100000000 from ⟨by omega, by omega⟩)
          have fr_o2 : Fr [(38, 9999)] i_o o2 := by rw [e_o2]; exact Fr.s1 fr_o rfl
          have sl_o2 : SL o2 = SL o - o.1 38 ((5 * x4) + x7).toNat + n6 := by rw [e_o2]; exact SL_upd (by omega)
          have sb2 : SBI o2 x1 x2 := by rw [e_o2]; exact SBI_step hB_o w3 (by omega) (by omega) (by omega) (by omega) (by omega) (show x6 = bsd x4 x5 by assumption) (by omega) ld9 fn9 (by omega)
          have de2 : ∀ k, o2.1 38 k ≤ o.1 38 k := by rw [e_o2]; exact (U38_st (by omega)).2.2.2
          have sa2 : n6 = o.1 38 (5 * x4 + x7).toNat → ∀ k, o2.1 38 k = o.1 38 k := fun e => by rw [e_o2]; exact st38_same e
          have u2 : U38 o o2 := by rw [e_o2]; exact U38_st (by omega)
          refine T_some ?_
          show (BoxM o2 ∧ (Fr [(38, 9999)] i_o o2) ∧ (0 ≤ 0 ∧ 0 ≤ 1) ∧ (0 ≤ (x7 + 1) ∧ (x7 + 1) ≤ 5) ∧ ((0 = i_x3 ∧ SL o2 = SL i_o) ∨ (0 = 1 ∧ SL o2 < SL i_o)) ∧ (SBI o2 x1 x2) ∧ (∀ k, o2.1 38 k ≤ i_o.1 38 k) ∧ ((0 : Int) = 0 → (0 : Int) = i_x3 ∧ (∀ j, o2.1 38 j = i_o.1 38 j)) ∧ ((0 : Int) = 0 → CKW o2 x4 x5 x6 (x7 + 1))) ∧ (5 - (x7 + 1)).toNat < (5 - x7).toNat
          exact ⟨⟨hB_o2, fr_o2, (by omega), (by omega), (by omega), (by first | assumption | exact SBI_0 (by omega) (by assumption)| fail), (by first | assumption | exact (fun _ => Int.le_refl _) | exact (fun k => Int.le_trans (de2 k) (w4 k))| fail), (by first | assumption | exact (fun e => absurd e (by decide)) | exact (fun e => ⟨e, fun _ => rfl⟩) | exact (fun e => ⟨(w5 (by omega)).1, fun j => (sa2 (by omega) j).trans ((w5 (by omega)).2 j)⟩) | exact (fun e => ⟨(w4 (sam9 e).1).1, fun j => ((sam9 e).2 j).trans ((w4 (sam9 e).1).2 j)⟩)| fail), (by first | assumption | exact (fun e => absurd e (by decide)) | exact (fun _ => CKW_0) | exact (fun e => CKW_s u2 (sa2 (by omega)) (w6 (by omega)) (by omega)) | (intro e; have q9 := w6 e; rwa [show x7 = 5 by omega] at q9)| fail)⟩, by omega⟩
    ·
      unfold b_X12_setLeft_151
      unfold b_X12_setLeft_156
      refine T_qIn ⟨by omega, by omega⟩ ?_
      refine T_qNm (fun n4 e_n4 => ?_)
      have b_n4 : 0 ≤ n4 ∧ n4 ≤ 100000000 := by rw [e_n4]; exact bM_38 hB_o _
      refine T_qLt ⟨by omega, by omega⟩ ⟨by omega, by omega⟩ (fun h10 => ?_) (fun h10 => ?_)
      ·
        unfold b_X12_setLeft_202
        refine T_qIn ⟨by omega, by omega⟩ ?_
        refine T_qNm (fun o2 e_o2 => ?_)
        have hB_o2 : BoxM o2 := by rw [e_o2]; exact Box.s1 hB_o (show 0 ≤ r7 ∧ r7 ≤ 100000000 from ⟨by omega, by omega⟩)
        have fr_o2 : Fr [(38, 9999)] i_o o2 := by rw [e_o2]; exact Fr.s1 fr_o rfl
        have sl_o2 : SL o2 = SL o - o.1 38 ((5 * x4) + x7).toNat + r7 := by rw [e_o2]; exact SL_upd (by omega)
        have sb2 : SBI o2 x1 x2 := by rw [e_o2]; exact SBI_step hB_o w3 (by omega) (by omega) (by omega) (by omega) (by omega) (show x6 = bsd x4 x5 by assumption) (by omega) ld9 fn9 (by omega)
        have de2 : ∀ k, o2.1 38 k ≤ o.1 38 k := by rw [e_o2]; exact (U38_st (by omega)).2.2.2
        have sa2 : r7 = o.1 38 (5 * x4 + x7).toNat → ∀ k, o2.1 38 k = o.1 38 k := fun e => by rw [e_o2]; exact st38_same e
        have u2 : U38 o o2 := by rw [e_o2]; exact U38_st (by omega)
        refine T_some ?_
        show (BoxM o2 ∧ (Fr [(38, 9999)] i_o o2) ∧ (0 ≤ 1 ∧ 1 ≤ 1) ∧ (0 ≤ (x7 + 1) ∧ (x7 + 1) ≤ 5) ∧ ((1 = i_x3 ∧ SL o2 = SL i_o) ∨ (1 = 1 ∧ SL o2 < SL i_o)) ∧ (SBI o2 x1 x2) ∧ (∀ k, o2.1 38 k ≤ i_o.1 38 k) ∧ ((0 : Int) = 1 → (0 : Int) = i_x3 ∧ (∀ j, o2.1 38 j = i_o.1 38 j)) ∧ ((0 : Int) = 1 → CKW o2 x4 x5 x6 (x7 + 1))) ∧ (5 - (x7 + 1)).toNat < (5 - x7).toNat
        exact ⟨⟨hB_o2, fr_o2, (by omega), (by omega), (by omega), (by first | assumption | exact SBI_0 (by omega) (by assumption)| fail), (by first | assumption | exact (fun _ => Int.le_refl _) | exact (fun k => Int.le_trans (de2 k) (w4 k))| fail), (by first | assumption | exact (fun e => absurd e (by decide)) | exact (fun e => ⟨e, fun _ => rfl⟩) | exact (fun e => ⟨(w5 (by omega)).1, fun j => (sa2 (by omega) j).trans ((w5 (by omega)).2 j)⟩) | exact (fun e => ⟨(w4 (sam9 e).1).1, fun j => ((sam9 e).2 j).trans ((w4 (sam9 e).1).2 j)⟩)| fail), (by first | assumption | exact (fun e => absurd e (by decide)) | exact (fun _ => CKW_0) | exact (fun e => CKW_s u2 (sa2 (by omega)) (w6 (by omega)) (by omega)) | (intro e; have q9 := w6 e; rwa [show x7 = 5 by omega] at q9)| fail)⟩, by omega⟩
      ·
        refine T_qIn ⟨by omega, by omega⟩ ?_
        refine T_qNm (fun n6 e_n6 => ?_)
        have b_n6 : 0 ≤ n6 ∧ n6 ≤ 100000000 := by rw [e_n6]; exact bM_38 hB_o _
        unfold b_X12_setLeft_202
        refine T_qIn ⟨by omega, by omega⟩ ?_
        refine T_qNm (fun o2 e_o2 => ?_)
        have hB_o2 : BoxM o2 := by rw [e_o2]; exact Box.s1 hB_o (show 0 ≤ n6 ∧ n6 ≤ 100000000 from ⟨by omega, by omega⟩)
        have fr_o2 : Fr [(38, 9999)] i_o o2 := by rw [e_o2]; exact Fr.s1 fr_o rfl
        have sl_o2 : SL o2 = SL o - o.1 38 ((5 * x4) + x7).toNat + n6 := by rw [e_o2]; exact SL_upd (by omega)
        have sb2 : SBI o2 x1 x2 := by rw [e_o2]; exact SBI_step hB_o w3 (by omega) (by omega) (by omega) (by omega) (by omega) (show x6 = bsd x4 x5 by assumption) (by omega) ld9 fn9 (by omega)
        have de2 : ∀ k, o2.1 38 k ≤ o.1 38 k := by rw [e_o2]; exact (U38_st (by omega)).2.2.2
        have sa2 : n6 = o.1 38 (5 * x4 + x7).toNat → ∀ k, o2.1 38 k = o.1 38 k := fun e => by rw [e_o2]; exact st38_same e
        have u2 : U38 o o2 := by rw [e_o2]; exact U38_st (by omega)
        refine T_some ?_
        show (BoxM o2 ∧ (Fr [(38, 9999)] i_o o2) ∧ (0 ≤ 1 ∧ 1 ≤ 1) ∧ (0 ≤ (x7 + 1) ∧ (x7 + 1) ≤ 5) ∧ ((1 = i_x3 ∧ SL o2 = SL i_o) ∨ (1 = 1 ∧ SL o2 < SL i_o)) ∧ (SBI o2 x1 x2) ∧ (∀ k, o2.1 38 k ≤ i_o.1 38 k) ∧ ((0 : Int) = 1 → (0 : Int) = i_x3 ∧ (∀ j, o2.1 38 j = i_o.1 38 j)) ∧ ((0 : Int) = 1 → CKW o2 x4 x5 x6 (x7 + 1))) ∧ (5 - (x7 + 1)).toNat < (5 - x7).toNat
        exact ⟨⟨hB_o2, fr_o2, (by omega), (by omega), (by omega), (by first | assumption | exact SBI_0 (by omega) (by assumption)| fail), (by first | assumption | exact (fun _ => Int.le_refl _) | exact (fun k => Int.le_trans (de2 k) (w4 k))| fail), (by first | assumption | exact (fun e => absurd e (by decide)) | exact (fun e => ⟨e, fun _ => rfl⟩) | exact (fun e => ⟨(w5 (by omega)).1, fun j => (sa2 (by omega) j).trans ((w5 (by omega)).2 j)⟩) | exact (fun e => ⟨(w4 (sam9 e).1).1, fun j => ((sam9 e).2 j).trans ((w4 (sam9 e).1).2 j)⟩)| fail), (by first | assumption | exact (fun e => absurd e (by decide)) | exact (fun _ => CKW_0) | exact (fun e => CKW_s u2 (sa2 (by omega)) (w6 (by omega)) (by omega)) | (intro e; have q9 := w6 e; rwa [show x7 = 5 by omega] at q9)| fail)⟩, by omega⟩
  ·
    refine T_some ?_
    show BoxM o ∧ (Fr [(38, 9999)] i_o o) ∧ (0 ≤ x3 ∧ x3 ≤ 1) ∧ ((x3 = i_x3 ∧ SL o = SL i_o) ∨ (x3 = 1 ∧ SL o < SL i_o)) ∧ (SBI o x1 x2) ∧ ((0 : Int) = x3 → (0 : Int) = i_x3 ∧ (∀ j, o.1 38 j = i_o.1 38 j)) ∧ ((0 : Int) = x3 → CKW o x4 x5 x6 5)
    exact ⟨hB_o, fr_o, (by omega), (by omega), (by first | assumption | exact SBI_0 (by omega) (by assumption)| fail), (by first | assumption | exact (fun e => absurd e (by decide)) | exact (fun e => ⟨e, fun _ => rfl⟩) | exact (fun e => ⟨(w5 (by omega)).1, fun j => (sa2 (by omega) j).trans ((w5 (by omega)).2 j)⟩) | exact (fun e => ⟨(w4 (sam9 e).1).1, fun j => ((sam9 e).2 j).trans ((w4 (sam9 e).1).2 j)⟩)| fail), (by first | assumption | exact (fun e => absurd e (by decide)) | exact (fun _ => CKW_0) | exact (fun e => CKW_s u2 (sa2 (by omega)) (w6 (by omega)) (by omega)) | (intro e; have q9 := w6 e; rwa [show x7 = 5 by omega] at q9)| fail)⟩
set_option maxRecDepth 20000 in
set_option maxHeartbeats 4000000 in
theorem tl_X12_setLeft_56 (x1 : Int) (x2 : Int) (x4 : Int) (i_o : OO) (i_x3 : Int) (i_x5 : Int) (hB_i_o : BoxM i_o) (k0 : 0 ≤ x1 ∧ x1 ≤ 63) (k1 : 0 ≤ x2 ∧ x2 ≤ 9999) (k2 : 0 ≤ x4 ∧ x4 ≤ 63) (v0 : 0 ≤ i_x3 ∧ i_x3 ≤ 1) (v1 : 0 ≤ i_x5 ∧ i_x5 ≤ 4) (v2 : (i_x3 = i_x3 ∧ SL i_o = SL i_o) ∨ (i_x3 = 1 ∧ SL i_o < SL i_o)) (v3 : SBI i_o x1 x2) (v4 : (0 : Int) = i_x3 → (0 : Int) = i_x3 ∧ (∀ j, i_o.1 38 j = i_o.1 38 j)) (v5 : (0 : Int) = i_x3 → CKY i_o x1 x2 x4 i_x5) : T (loopW (fun s => l_X12_setLeft_56 x1 x2 x4 s.1 s.2.1 s.2.2) (i_o, i_x3, i_x5)) (fun r => BoxM r.1 ∧ (Fr [(38, 9999)] i_o r.1) ∧ (0 ≤ r.2 ∧ r.2 ≤ 1) ∧ ((r.2 = i_x3 ∧ SL r.1 = SL i_o) ∨ (r.2 = 1 ∧ SL r.1 < SL i_o)) ∧ (SBI r.1 x1 x2) ∧ ((0 : Int) = r.2 → (0 : Int) = i_x3 ∧ (∀ j, r.1.1 38 j = i_o.1 38 j)) ∧ ((0 : Int) = r.2 → CKY r.1 x1 x2 x4 4)) := by
  have fr_i_o : Fr [(38, 9999)] i_o i_o := Fr.rf
  refine T_loop (fun s => BoxM s.1 ∧ (Fr [(38, 9999)] i_o s.1) ∧ (0 ≤ s.2.1 ∧ s.2.1 ≤ 1) ∧ (0 ≤ s.2.2 ∧ s.2.2 ≤ 4) ∧ ((s.2.1 = i_x3 ∧ SL s.1 = SL i_o) ∨ (s.2.1 = 1 ∧ SL s.1 < SL i_o)) ∧ (SBI s.1 x1 x2) ∧ ((0 : Int) = s.2.1 → (0 : Int) = i_x3 ∧ (∀ j, s.1.1 38 j = i_o.1 38 j)) ∧ ((0 : Int) = s.2.1 → CKY s.1 x1 x2 x4 s.2.2)) (fun s => (4 - s.2.2).toNat) (by exact ⟨hB_i_o, fr_i_o, v0, v1, v2, v3, v4, v5⟩) (fun s hs => ?_)
  obtain ⟨o, x3, x5⟩ := s
  replace hs : BoxM o ∧ (Fr [(38, 9999)] i_o o) ∧ (0 ≤ x3 ∧ x3 ≤ 1) ∧ (0 ≤ x5 ∧ x5 ≤ 4) ∧ ((x3 = i_x3 ∧ SL o = SL i_o) ∨ (x3 = 1 ∧ SL o < SL i_o)) ∧ (SBI o x1 x2) ∧ ((0 : Int) = x3 → (0 : Int) = i_x3 ∧ (∀ j, o.1 38 j = i_o.1 38 j)) ∧ ((0 : Int) = x3 → CKY o x1 x2 x4 x5) := hs
  obtain ⟨hB_o, fr_o, w0, w1, w2, w3, w4, w5⟩ := hs
  show T (l_X12_setLeft_56 x1 x2 x4 o x3 x5) _
  unfold l_X12_setLeft_56
  refine T_qLt ⟨by omega, by omega⟩ ⟨by decide, by decide⟩ (fun h11 => ?_) (fun h11 => ?_)
  ·
    refine T_qB (t_X12_beside x4 x5 (by omega) (by omega)) (fun r11 hc_r11 hp12 => ?_)
    replace hp12 : (r11 = -9 ∨ (0 ≤ r11 ∧ r11 ≤ 63 ∧ (x5 = 0 ∧ r11 = x4 - 8 ∨ x5 = 1 ∧ r11 = x4 - 1 ∨ x5 = 2 ∧ r11 = x4 + 1 ∨ x5 = 3 ∧ r11 = x4 + 8))) ∧ (r11 = bsd x4 x5) := hp12
    have hps_hp12 := hp12
    obtain ⟨hp12_0, hp12_1⟩ := hps_hp12
    replace hp12 := hid hp12
    have hq11 := hp12_1
    refine T_qEq ⟨by omega, by omega⟩ ⟨by omega, by omega⟩ (fun h13 => ?_) (fun h13 => ?_)
    ·
      unfold b_X12_setLeft_209
      refine T_some ?_
      show (BoxM o ∧ (Fr [(38, 9999)] i_o o) ∧ (0 ≤ x3 ∧ x3 ≤ 1) ∧ (0 ≤ (x5 + 1) ∧ (x5 + 1) ≤ 4) ∧ ((x3 = i_x3 ∧ SL o = SL i_o) ∨ (x3 = 1 ∧ SL o < SL i_o)) ∧ (SBI o x1 x2) ∧ ((0 : Int) = x3 → (0 : Int) = i_x3 ∧ (∀ j, o.1 38 j = i_o.1 38 j)) ∧ ((0 : Int) = x3 → CKY o x1 x2 x4 (x5 + 1))) ∧ (4 - (x5 + 1)).toNat < (4 - x5).toNat
      exact ⟨⟨hB_o, fr_o, (by omega), (by omega), (by omega), (by first | assumption | exact SBI_0 (by omega) (by assumption)| fail), (by first | assumption | exact (fun e => absurd e (by decide)) | exact (fun e => ⟨e, fun _ => rfl⟩) | exact (fun e => ⟨(w5 (by omega)).1, fun j => (sa2 (by omega) j).trans ((w5 (by omega)).2 j)⟩) | exact (fun e => ⟨(w4 (sam9 e).1).1, fun j => ((sam9 e).2 j).trans ((w4 (sam9 e).1).2 j)⟩)| fail), (by first | assumption | exact (fun e => absurd e (by decide)) | exact (fun _ => CKY_0) | exact (fun e => CKY_s (U38_rf o) (fun _ => rfl) (w5 e) (CK_skip1 (by omega))) | exact (fun e => CKY_s (U38_rf o) (fun _ => rfl) (w5 e) (CK_skip2 hq11 hc_r13 (by omega))) | exact (fun e => CKY_s (U38_rf o) (fun _ => rfl) (w5 e) (CK_skip3 hq11 (by omega))) | exact (fun e => CKY_s (u8 e) (sam9 e).2 (w5 (sam9 e).1) (CK_of hq11 (ckw9 e))) | (intro e; have q9 := w5 e; rwa [show x5 = 4 by omega] at q9)| fail)⟩, by omega⟩
    ·
      refine T_qB (t_X12_leads o x4 r11 x2 hB_o (by omega) (by omega) (by omega)) (fun r13 hc_r13 hp14 => ?_)
      replace hp14 : ((r13 = 1 ∧ 0 ≤ r11) ∨ r13 = 0) := hp14
      have ld8 : ¬ r13 = 0 → LD o x4 r11 x2 := fun e => ⟨r13, hc_r13, e⟩
      refine T_qEq ⟨by omega, by omega⟩ ⟨by decide, by decide⟩ (fun h15 => ?_) (fun h15 => ?_)
      ·
        unfold b_X12_setLeft_209
        refine T_some ?_
        show (BoxM o ∧ (Fr [(38, 9999)] i_o o) ∧ (0 ≤ x3 ∧ x3 ≤ 1) ∧ (0 ≤ (x5 + 1) ∧ (x5 + 1) ≤ 4) ∧ ((x3 = i_x3 ∧ SL o = SL i_o) ∨ (x3 = 1 ∧ SL o < SL i_o)) ∧ (SBI o x1 x2) ∧ ((0 : Int) = x3 → (0 : Int) = i_x3 ∧ (∀ j, o.1 38 j = i_o.1 38 j)) ∧ ((0 : Int) = x3 → CKY o x1 x2 x4 (x5 + 1))) ∧ (4 - (x5 + 1)).toNat < (4 - x5).toNat
        exact ⟨⟨hB_o, fr_o, (by omega), (by omega), (by omega), (by first | assumption | exact SBI_0 (by omega) (by assumption)| fail), (by first | assumption | exact (fun e => absurd e (by decide)) | exact (fun e => ⟨e, fun _ => rfl⟩) | exact (fun e => ⟨(w5 (by omega)).1, fun j => (sa2 (by omega) j).trans ((w5 (by omega)).2 j)⟩) | exact (fun e => ⟨(w4 (sam9 e).1).1, fun j => ((sam9 e).2 j).trans ((w4 (sam9 e).1).2 j)⟩)| fail), (by first | assumption | exact (fun e => absurd e (by decide)) | exact (fun _ => CKY_0) | exact (fun e => CKY_s (U38_rf o) (fun _ => rfl) (w5 e) (CK_skip1 (by omega))) | exact (fun e => CKY_s (U38_rf o) (fun _ => rfl) (w5 e) (CK_skip2 hq11 hc_r13 (by omega))) | exact (fun e => CKY_s (U38_rf o) (fun _ => rfl) (w5 e) (CK_skip3 hq11 (by omega))) | exact (fun e => CKY_s (u8 e) (sam9 e).2 (w5 (sam9 e).1) (CK_of hq11 (ckw9 e))) | (intro e; have q9 := w5 e; rwa [show x5 = 4 by omega] at q9)| fail)⟩, by omega⟩
      ·
        refine T_qIn ⟨by omega, by omega⟩ ?_
        refine T_qNm (fun n16 e_n16 => ?_)
        have b_n16 : 0 ≤ n16 ∧ n16 ≤ 100000000 := by rw [e_n16]; exact bM_38 hB_o _
        refine T_qLt ⟨by omega, by omega⟩ ⟨by decide, by decide⟩ (fun h16 => ?_) (fun h16 => ?_)
        ·
          unfold e_X12_setLeft_110
          refine T_qB (tl_X12_setLeft_110 x1 x2 x4 x5 r11 o x3 0 hB_o (by omega) (by omega) (by omega) (by omega) (by omega) (by omega) (by omega) (ld8 (by omega)) (by unfold FN; omega) (by omega) (by omega) (by omega) (by first | assumption | exact SBI_0 (by omega) (by assumption)| fail) (by first | assumption | exact (fun _ => Int.le_refl _) | exact (fun k => Int.le_trans (de2 k) (w4 k))| fail) (by first | assumption | exact (fun e => absurd e (by decide)) | exact (fun e => ⟨e, fun _ => rfl⟩) | exact (fun e => ⟨(w5 (by omega)).1, fun j => (sa2 (by omega) j).trans ((w5 (by omega)).2 j)⟩) | exact (fun e => ⟨(w4 (sam9 e).1).1, fun j => ((sam9 e).2 j).trans ((w4 (sam9 e).1).2 j)⟩)| fail) (by first | assumption | exact (fun e => absurd e (by decide)) | exact (fun _ => CKW_0) | exact (fun e => CKW_s u2 (sa2 (by omega)) (w6 (by omega)) (by omega)) | (intro e; have q9 := w6 e; rwa [show x7 = 5 by omega] at q9)| fail)) (fun r17 hc_r17 hp18 => ?_)
          obtain ⟨o_19, x3_20⟩ := r17
          replace hp18 : BoxM o_19 ∧ (Fr [(38, 9999)] o o_19) ∧ (0 ≤ x3_20 ∧ x3_20 ≤ 1) ∧ ((x3_20 = x3 ∧ SL o_19 = SL o) ∨ (x3_20 = 1 ∧ SL o_19 < SL o)) ∧ (SBI o_19 x1 x2) ∧ ((0 : Int) = x3_20 → (0 : Int) = x3 ∧ (∀ j, o_19.1 38 j = o.1 38 j)) ∧ ((0 : Int) = x3_20 → CKW o_19 x4 x5 r11 5) := hp18
          have hps_hp18 := hp18
          obtain ⟨hp18_0, hp18_1, hp18_2, hp18_3, hp18_4, hp18_5, hp18_6⟩ := hps_hp18
          obtain ⟨hB_o_19, fc_o_19, hp18⟩ := hp18
          replace hp18 := hid hp18
          have fr_o_19 : Fr [(38, 9999)] i_o o_19 := Fr.tr fr_o fc_o_19 rfl
          show T (b_X12_setLeft_209 o_19 x1 x2 x3_20 x4 x5) _
          have sam9 : (0 : Int) = x3_20 → (0 : Int) = x3 ∧ (∀ j, o_19.1 38 j = o.1 38 j) := by assumption
          have u8 : (0 : Int) = x3_20 → U38 o o_19 := fun e => U38.of fc_o_19 (fun _ => rfl) (fun _ => rfl) (fun _ => rfl) (fun k => Int.le_of_eq ((sam9 e).2 k))
          have ckw9 : (0 : Int) = x3_20 → CKW o_19 x4 x5 r11 5 := by assumption
          unfold b_X12_setLeft_209
          refine T_some ?_
          show (BoxM o_19 ∧ (Fr [(38, 9999)] i_o o_19) ∧ (0 ≤ x3_20 ∧ x3_20 ≤ 1) ∧ (0 ≤ (x5 + 1) ∧ (x5 + 1) ≤ 4) ∧ ((x3_20 = i_x3 ∧ SL o_19 = SL i_o) ∨ (x3_20 = 1 ∧ SL o_19 < SL i_o)) ∧ (SBI o_19 x1 x2) ∧ ((0 : Int) = x3_20 → (0 : Int) = i_x3 ∧ (∀ j, o_19.1 38 j = i_o.1 38 j)) ∧ ((0 : Int) = x3_20 → CKY o_19 x1 x2 x4 (x5 + 1))) ∧ (4 - (x5 + 1)).toNat < (4 - x5).toNat
          exact ⟨⟨hB_o_19, fr_o_19, (by omega), (by omega), (by omega), (by first | assumption | exact SBI_0 (by omega) (by assumption)| fail), (by first | assumption | exact (fun e => absurd e (by decide)) | exact (fun e => ⟨e, fun _ => rfl⟩) | exact (fun e => ⟨(w5 (by omega)).1, fun j => (sa2 (by omega) j).trans ((w5 (by omega)).2 j)⟩) | exact (fun e => ⟨(w4 (sam9 e).1).1, fun j => ((sam9 e).2 j).trans ((w4 (sam9 e).1).2 j)⟩)| fail), (by first | assumption | exact (fun e => absurd e (by decide)) | exact (fun _ => CKY_0) | exact (fun e => CKY_s (U38_rf o) (fun _ => rfl) (w5 e) (CK_skip1 (by omega))) | exact (fun e => CKY_s (U38_rf o) (fun _ => rfl) (w5 e) (CK_skip2 hq11 hc_r13 (by omega))) | exact (fun e => CKY_s (U38_rf o) (fun _ => rfl) (w5 e) (CK_skip3 hq11 (by omega))) | exact (fun e => CKY_s (u8 e) (sam9 e).2 (w5 (sam9 e).1) (CK_of hq11 (ckw9 e))) | (intro e; have q9 := w5 e; rwa [show x5 = 4 by omega] at q9)| fail)⟩, by omega⟩
        ·
          unfold b_X12_setLeft_209
          refine T_some ?_
          show (BoxM o ∧ (Fr [(38, 9999)] i_o o) ∧ (0 ≤ x3 ∧ x3 ≤ 1) ∧ (0 ≤ (x5 + 1) ∧ (x5 + 1) ≤ 4) ∧ ((x3 = i_x3 ∧ SL o = SL i_o) ∨ (x3 = 1 ∧ SL o < SL i_o)) ∧ (SBI o x1 x2) ∧ ((0 : Int) = x3 → (0 : Int) = i_x3 ∧ (∀ j, o.1 38 j = i_o.1 38 j)) ∧ ((0 : Int) = x3 → CKY o x1 x2 x4 (x5 + 1))) ∧ (4 - (x5 + 1)).toNat < (4 - x5).toNat
          exact ⟨⟨hB_o, fr_o, (by omega), (by omega), (by omega), (by first | assumption | exact SBI_0 (by omega) (by assumption)| fail), (by first | assumption | exact (fun e => absurd e (by decide)) | exact (fun e => ⟨e, fun _ => rfl⟩) | exact (fun e => ⟨(w5 (by omega)).1, fun j => (sa2 (by omega) j).trans ((w5 (by omega)).2 j)⟩) | exact (fun e => ⟨(w4 (sam9 e).1).1, fun j => ((sam9 e).2 j).trans ((w4 (sam9 e).1).2 j)⟩)| fail), (by first | assumption | exact (fun e => absurd e (by decide)) | exact (fun _ => CKY_0) | exact (fun e => CKY_s (U38_rf o) (fun _ => rfl) (w5 e) (CK_skip1 (by omega))) | exact (fun e => CKY_s (U38_rf o) (fun _ => rfl) (w5 e) (CK_skip2 hq11 hc_r13 (by omega))) | exact (fun e => CKY_s (U38_rf o) (fun _ => rfl) (w5 e) (CK_skip3 hq11 (by omega))) | exact (fun e => CKY_s (u8 e) (sam9 e).2 (w5 (sam9 e).1) (CK_of hq11 (ckw9 e))) | (intro e; have q9 := w5 e; rwa [show x5 = 4 by omega] at q9)| fail)⟩, by omega⟩
  ·
    refine T_some ?_
    show BoxM o ∧ (Fr [(38, 9999)] i_o o) ∧ (0 ≤ x3 ∧ x3 ≤ 1) ∧ ((x3 = i_x3 ∧ SL o = SL i_o) ∨ (x3 = 1 ∧ SL o < SL i_o)) ∧ (SBI o x1 x2) ∧ ((0 : Int) = x3 → (0 : Int) = i_x3 ∧ (∀ j, o.1 38 j = i_o.1 38 j)) ∧ ((0 : Int) = x3 → CKY o x1 x2 x4 4)
    exact ⟨hB_o, fr_o, (by omega), (by omega), (by first | assumption | exact SBI_0 (by omega) (by assumption)| fail), (by first | assumption | exact (fun e => absurd e (by decide)) | exact (fun e => ⟨e, fun _ => rfl⟩) | exact (fun e => ⟨(w5 (by omega)).1, fun j => (sa2 (by omega) j).trans ((w5 (by omega)).2 j)⟩) | exact (fun e => ⟨(w4 (sam9 e).1).1, fun j => ((sam9 e).2 j).trans ((w4 (sam9 e).1).2 j)⟩)| fail), (by first | assumption | exact (fun e => absurd e (by decide)) | exact (fun _ => CKY_0) | exact (fun e => CKY_s (U38_rf o) (fun _ => rfl) (w5 e) (CK_skip1 (by omega))) | exact (fun e => CKY_s (U38_rf o) (fun _ => rfl) (w5 e) (CK_skip2 hq11 hc_r13 (by omega))) | exact (fun e => CKY_s (U38_rf o) (fun _ => rfl) (w5 e) (CK_skip3 hq11 (by omega))) | exact (fun e => CKY_s (u8 e) (sam9 e).2 (w5 (sam9 e).1) (CK_of hq11 (ckw9 e))) | (intro e; have q9 := w5 e; rwa [show x5 = 4 by omega] at q9)| fail)⟩
set_option maxRecDepth 20000 in
set_option maxHeartbeats 4000000 in
theorem tl_X12_setLeft_46 (x1 : Int) (x2 : Int) (i_o : OO) (i_x3 : Int) (i_x4 : Int) (hB_i_o : BoxM i_o) (k0 : 0 ≤ x1 ∧ x1 ≤ 63) (k1 : 0 ≤ x2 ∧ x2 ≤ 9999) (v0 : 0 ≤ i_x3 ∧ i_x3 ≤ 1) (v1 : 0 ≤ i_x4 ∧ i_x4 ≤ 64) (v2 : (i_x3 = i_x3 ∧ SL i_o = SL i_o) ∨ (i_x3 = 1 ∧ SL i_o < SL i_o)) (v3 : SBI i_o x1 x2) (v4 : (0 : Int) = i_x3 → CKC i_o x1 x2 i_x4) : T (loopW (fun s => l_X12_setLeft_46 x1 x2 s.1 s.2.1 s.2.2) (i_o, i_x3, i_x4)) (fun r => BoxM r.1 ∧ (Fr [(38, 9999)] i_o r.1) ∧ (0 ≤ r.2 ∧ r.2 ≤ 1) ∧ ((r.2 = i_x3 ∧ SL r.1 = SL i_o) ∨ (r.2 = 1 ∧ SL r.1 < SL i_o)) ∧ (SBI r.1 x1 x2) ∧ ((0 : Int) = r.2 → B1 r.1 x1 x2)) := by
  have fr_i_o : Fr [(38, 9999)] i_o i_o := Fr.rf
  refine T_loop (fun s => BoxM s.1 ∧ (Fr [(38, 9999)] i_o s.1) ∧ (0 ≤ s.2.1 ∧ s.2.1 ≤ 1) ∧ (0 ≤ s.2.2 ∧ s.2.2 ≤ 64) ∧ ((s.2.1 = i_x3 ∧ SL s.1 = SL i_o) ∨ (s.2.1 = 1 ∧ SL s.1 < SL i_o)) ∧ (SBI s.1 x1 x2) ∧ ((0 : Int) = s.2.1 → CKC s.1 x1 x2 s.2.2)) (fun s => (64 - s.2.2).toNat) (by exact ⟨hB_i_o, fr_i_o, v0, v1, v2, v3, v4⟩) (fun s hs => ?_)
  obtain ⟨o, x3, x4⟩ := s
  replace hs : BoxM o ∧ (Fr [(38, 9999)] i_o o) ∧ (0 ≤ x3 ∧ x3 ≤ 1) ∧ (0 ≤ x4 ∧ x4 ≤ 64) ∧ ((x3 = i_x3 ∧ SL o = SL i_o) ∨ (x3 = 1 ∧ SL o < SL i_o)) ∧ (SBI o x1 x2) ∧ ((0 : Int) = x3 → CKC o x1 x2 x4) := hs
  obtain ⟨hB_o, fr_o, w0, w1, w2, w3, w4⟩ := hs
  show T (l_X12_setLeft_46 x1 x2 o x3 x4) _
  unfold l_X12_setLeft_46
  refine T_qLt ⟨by omega, by omega⟩ ⟨by decide, by decide⟩ (fun h21 => ?_) (fun h21 => ?_)
  ·
    unfold e_X12_setLeft_56
    refine T_qB (tl_X12_setLeft_56 x1 x2 x4 o x3 0 hB_o (by omega) (by omega) (by omega) (by omega) (by omega) (by omega) (by first | assumption | exact SBI_0 (by omega) (by assumption)| fail) (by first | assumption | exact (fun e => absurd e (by decide)) | exact (fun e => ⟨e, fun _ => rfl⟩) | exact (fun e => ⟨(w5 (by omega)).1, fun j => (sa2 (by omega) j).trans ((w5 (by omega)).2 j)⟩) | exact (fun e => ⟨(w4 (sam9 e).1).1, fun j => ((sam9 e).2 j).trans ((w4 (sam9 e).1).2 j)⟩)| fail) (by first | assumption | exact (fun e => absurd e (by decide)) | exact (fun _ => CKY_0) | exact (fun e => CKY_s (U38_rf o) (fun _ => rfl) (w5 e) (CK_skip1 (by omega))) | exact (fun e => CKY_s (U38_rf o) (fun _ => rfl) (w5 e) (CK_skip2 hq11 hc_r13 (by omega))) | exact (fun e => CKY_s (U38_rf o) (fun _ => rfl) (w5 e) (CK_skip3 hq11 (by omega))) | exact (fun e => CKY_s (u8 e) (sam9 e).2 (w5 (sam9 e).1) (CK_of hq11 (ckw9 e))) | (intro e; have q9 := w5 e; rwa [show x5 = 4 by omega] at q9)| fail)) (fun r22 hc_r22 hp23 => ?_)
    obtain ⟨o_24, x3_25⟩ := r22
    replace hp23 : BoxM o_24 ∧ (Fr [(38, 9999)] o o_24) ∧ (0 ≤ x3_25 ∧ x3_25 ≤ 1) ∧ ((x3_25 = x3 ∧ SL o_24 = SL o) ∨ (x3_25 = 1 ∧ SL o_24 < SL o)) ∧ (SBI o_24 x1 x2) ∧ ((0 : Int) = x3_25 → (0 : Int) = x3 ∧ (∀ j, o_24.1 38 j = o.1 38 j)) ∧ ((0 : Int) = x3_25 → CKY o_24 x1 x2 x4 4) := hp23
    have hps_hp23 := hp23
    obtain ⟨hp23_0, hp23_1, hp23_2, hp23_3, hp23_4, hp23_5, hp23_6⟩ := hps_hp23
    obtain ⟨hB_o_24, fc_o_24, hp23⟩ := hp23
    replace hp23 := hid hp23
    have fr_o_24 : Fr [(38, 9999)] i_o o_24 := Fr.tr fr_o fc_o_24 rfl
    show T (b_X12_setLeft_215 o_24 x1 x2 x3_25 x4) _
    have sam9 : (0 : Int) = x3_25 → (0 : Int) = x3 ∧ (∀ j, o_24.1 38 j = o.1 38 j) := by assumption
    have u8 : (0 : Int) = x3_25 → U38 o o_24 := fun e => U38.of fc_o_24 (fun _ => rfl) (fun _ => rfl) (fun _ => rfl) (fun k => Int.le_of_eq ((sam9 e).2 k))
    have cky9 : (0 : Int) = x3_25 → CKY o_24 x1 x2 x4 4 := by assumption
    unfold b_X12_setLeft_215
    refine T_some ?_
    show (BoxM o_24 ∧ (Fr [(38, 9999)] i_o o_24) ∧ (0 ≤ x3_25 ∧ x3_25 ≤ 1) ∧ (0 ≤ (x4 + 1) ∧ (x4 + 1) ≤ 64) ∧ ((x3_25 = i_x3 ∧ SL o_24 = SL i_o) ∨ (x3_25 = 1 ∧ SL o_24 < SL i_o)) ∧ (SBI o_24 x1 x2) ∧ ((0 : Int) = x3_25 → CKC o_24 x1 x2 (x4 + 1))) ∧ (64 - (x4 + 1)).toNat < (64 - x4).toNat
    exact ⟨⟨hB_o_24, fr_o_24, (by omega), (by omega), (by omega), (by first | assumption | exact SBI_0 (by omega) (by assumption)| fail), (by first | assumption | exact (fun _ => CKC_0) | exact (fun e => CKC_s (u8 e) (sam9 e).2 (w4 (sam9 e).1) (cky9 e))| fail)⟩, by omega⟩
  ·
    refine T_some ?_
    show BoxM o ∧ (Fr [(38, 9999)] i_o o) ∧ (0 ≤ x3 ∧ x3 ≤ 1) ∧ ((x3 = i_x3 ∧ SL o = SL i_o) ∨ (x3 = 1 ∧ SL o < SL i_o)) ∧ (SBI o x1 x2) ∧ ((0 : Int) = x3 → B1 o x1 x2)
    exact ⟨hB_o, fr_o, (by omega), (by omega), (by first | assumption | exact SBI_0 (by omega) (by assumption)| fail), (by first | assumption | exact (fun e => absurd e (by decide)) | (intro e c y w h0 h1 h2 h3 h4 h5; exact w4 e c y w h0 (by omega) h2 h3 h4 h5)| fail)⟩
set_option maxRecDepth 20000 in
set_option maxHeartbeats 4000000 in
theorem tl_X12_setLeft_37 (x1 : Int) (x2 : Int) (i_o : OO) (i_x3 : Int) (hB_i_o : BoxM i_o) (k0 : 0 ≤ x1 ∧ x1 ≤ 63) (k1 : 0 ≤ x2 ∧ x2 ≤ 9999) (v0 : 0 ≤ i_x3 ∧ i_x3 ≤ 1) (v1 : SBI i_o x1 x2) (v2 : (0 : Int) = i_x3 → B1 i_o x1 x2) : T (loopW (fun s => l_X12_setLeft_37 x1 x2 s.1 s.2) (i_o, i_x3)) (fun r => BoxM r ∧ (Fr [(38, 9999)] i_o r) ∧ (SBI r x1 x2) ∧ (B1 r x1 x2)) := by
  have fr_i_o : Fr [(38, 9999)] i_o i_o := Fr.rf
  refine T_loop (fun s => BoxM s.1 ∧ (Fr [(38, 9999)] i_o s.1) ∧ (0 ≤ s.2 ∧ s.2 ≤ 1) ∧ (SBI s.1 x1 x2) ∧ ((0 : Int) = s.2 → B1 s.1 x1 x2)) (fun s => (SL s.1).toNat + s.2.toNat) (by exact ⟨hB_i_o, fr_i_o, v0, v1, v2⟩) (fun s hs => ?_)
  obtain ⟨o, x3⟩ := s
  replace hs : BoxM o ∧ (Fr [(38, 9999)] i_o o) ∧ (0 ≤ x3 ∧ x3 ≤ 1) ∧ (SBI o x1 x2) ∧ ((0 : Int) = x3 → B1 o x1 x2) := hs
  obtain ⟨hB_o, fr_o, w0, w1, w2⟩ := hs
  have sln := SL_nn hB_o
  show T (l_X12_setLeft_37 x1 x2 o x3) _
  unfold l_X12_setLeft_37
  refine T_qEq ⟨by omega, by omega⟩ ⟨by decide, by decide⟩ (fun h26 => ?_) (fun h26 => ?_)
  ·
    refine T_some ?_
    show BoxM o ∧ (Fr [(38, 9999)] i_o o) ∧ (SBI o x1 x2) ∧ (B1 o x1 x2)
    exact ⟨hB_o, fr_o, (by first | assumption | exact SBI_0 (by omega) (by assumption)| fail), (by first | assumption | exact w2 (by omega)| fail)⟩
  ·
    unfold e_X12_setLeft_46
    refine T_qB (tl_X12_setLeft_46 x1 x2 o 0 0 hB_o (by omega) (by omega) (by omega) (by omega) (by omega) (by first | assumption | exact SBI_0 (by omega) (by assumption)| fail) (by first | assumption | exact (fun _ => CKC_0) | exact (fun e => CKC_s (u8 e) (sam9 e).2 (w4 (sam9 e).1) (cky9 e))| fail)) (fun r27 hc_r27 hp28 => ?_)
    obtain ⟨o_29, x3_30⟩ := r27
    replace hp28 : BoxM o_29 ∧ (Fr [(38, 9999)] o o_29) ∧ (0 ≤ x3_30 ∧ x3_30 ≤ 1) ∧ ((x3_30 = 0 ∧ SL o_29 = SL o) ∨ (x3_30 = 1 ∧ SL o_29 < SL o)) ∧ (SBI o_29 x1 x2) ∧ ((0 : Int) = x3_30 → B1 o_29 x1 x2) := hp28
    have hps_hp28 := hp28
    obtain ⟨hp28_0, hp28_1, hp28_2, hp28_3, hp28_4, hp28_5⟩ := hps_hp28
    obtain ⟨hB_o_29, fc_o_29, hp28⟩ := hp28
    replace hp28 := hid hp28
    have fr_o_29 : Fr [(38, 9999)] i_o o_29 := Fr.tr fr_o fc_o_29 rfl
    show T (b_X12_setLeft_221 o_29 x1 x2 x3_30) _
    have slm := SL_nn hB_o_29
    unfold b_X12_setLeft_221
    refine T_some ?_
    show (BoxM o_29 ∧ (Fr [(38, 9999)] i_o o_29) ∧ (0 ≤ x3_30 ∧ x3_30 ≤ 1) ∧ (SBI o_29 x1 x2) ∧ ((0 : Int) = x3_30 → B1 o_29 x1 x2)) ∧ (SL o_29).toNat + x3_30.toNat < (SL o).toNat + x3.toNat
    exact ⟨⟨hB_o_29, fr_o_29, (by omega), (by first | assumption | exact SBI_0 (by omega) (by assumption)| fail), (by first | assumption | exact (fun e => absurd e (by decide)) | (intro e c y w h0 h1 h2 h3 h4 h5; exact w4 e c y w h0 (by omega) h2 h3 h4 h5)| fail)⟩, by omega⟩
set_option maxRecDepth 20000 in
set_option maxHeartbeats 4000000 in
theorem t_X12_setLeft (o : OO) (x1 : Int) (x2 : Int) (hB_o : BoxM o) (k0 : 0 ≤ x1 ∧ x1 ≤ 63) (k1 : 0 ≤ x2 ∧ x2 ≤ 9999) : T (s_X12_setLeft o x1 x2) (fun v => BoxM v ∧ (Fr [(38, 9999)] o v) ∧ (SBI v x1 x2) ∧ (B1 v x1 x2)) := by
  have fr_o : Fr [(38, 9999)] o o := Fr.rf
  unfold s_X12_setLeft
  unfold e_X12_setLeft_2
  refine T_qB (tl_X12_setLeft_2 x1 x2 o 0 hB_o (by omega) (by omega) (by first | assumption | exact INI_0 | (have q9 := w1; rwa [show x3 = 320 by omega] at q9)| fail)) (fun r31 hc_r31 hp32 => ?_)
  obtain ⟨o_33, q_o_33⟩ : ∃ q, q = r31 := ⟨_, rfl⟩
  subst q_o_33
  replace hp32 : BoxM o_33 ∧ (Fr [(38, 9999)] o o_33) ∧ (INI o_33 x1 320) := hp32
  have hps_hp32 := hp32
  obtain ⟨hp32_0, hp32_1, hp32_2⟩ := hps_hp32
  obtain ⟨hB_o_33, fc_o_33, hp32⟩ := hp32
  replace hp32 := hid hp32
  have fr_o_33 : Fr [(38, 9999)] o o_33 := Fr.tr fr_o fc_o_33 rfl
  show T (b_X12_setLeft_35 o_33 x1 x2) _
  unfold b_X12_setLeft_35
  unfold e_X12_setLeft_37
  refine T_qB (tl_X12_setLeft_37 x1 x2 o_33 1 hB_o_33 (by omega) (by omega) (by omega) (by first | assumption | exact SBI_0 (by omega) (by assumption)| fail) (by first | assumption | exact (fun e => absurd e (by decide)) | (intro e c y w h0 h1 h2 h3 h4 h5; exact w4 e c y w h0 (by omega) h2 h3 h4 h5)| fail)) (fun r34 hc_r34 hp35 => ?_)
  obtain ⟨o_36, q_o_36⟩ : ∃ q, q = r34 := ⟨_, rfl⟩
  subst q_o_36
  replace hp35 : BoxM o_36 ∧ (Fr [(38, 9999)] o_33 o_36) ∧ (SBI o_36 x1 x2) ∧ (B1 o_36 x1 x2) := hp35
  have hps_hp35 := hp35
  obtain ⟨hp35_0, hp35_1, hp35_2, hp35_3⟩ := hps_hp35
  obtain ⟨hB_o_36, fc_o_36, hp35⟩ := hp35
  replace hp35 := hid hp35
  have fr_o_36 : Fr [(38, 9999)] o o_36 := Fr.tr fr_o_33 fc_o_36 rfl
  show T (b_X12_setLeft_224 o_36) _
  unfold b_X12_setLeft_224
  refine T_some ?_
  show BoxM o_36 ∧ (Fr [(38, 9999)] o o_36) ∧ (SBI o_36 x1 x2) ∧ (B1 o_36 x1 x2)
  exact ⟨hB_o_36, fr_o_36, (by first | assumption | exact SBI_0 (by omega) (by assumption)| fail), (by first | assumption | exact w2 (by omega)| fail)⟩
set_option maxRecDepth 20000 in
set_option maxHeartbeats 4000000 in
theorem tl_X12_line_74 (o : OO) (x1 : Int) (x2 : Int) (x3 : Int) (i_x4 : Int) (hB_o : BoxM o) (k0 : 0 ≤ x3 ∧ x3 ≤ 5) (v0 : 0 ≤ i_x4 ∧ i_x4 ≤ 4) (v1 : R4 o x3 i_x4) : T (loopW (fun s => l_X12_line_74 o x1 x2 x3 s) i_x4) (Sum.elim (fun _ => True) (fun _ => (R4 o x3 4))) := by
  refine T_loop (fun s => (0 ≤ s ∧ s ≤ 4) ∧ (R4 o x3 s)) (fun s => (4 - s).toNat) (by exact ⟨v0, v1⟩) (fun s hs => ?_)
  obtain ⟨x4, q_x4⟩ : ∃ q, q = s := ⟨_, rfl⟩
  subst q_x4
  replace hs : (0 ≤ x4 ∧ x4 ≤ 4) ∧ (R4 o x3 x4) := hs
  obtain ⟨w0, w1⟩ := hs
  have g0_32_o := bM_0_32 hB_o
  show T (l_X12_line_74 o x1 x2 x3 x4) _
  unfold l_X12_line_74
  refine T_qLt ⟨by omega, by omega⟩ ⟨by decide, by decide⟩ (fun h1 => ?_) (fun h1 => ?_)
  ·
    refine T_qIn ⟨by omega, by omega⟩ ?_
    refine T_qNm (fun n56 e_n56 => ?_)
    have b_n56 : -2147483648 ≤ n56 ∧ n56 ≤ 2147483647 := by rw [e_n56]; exact bM_3 hB_o _
    refine T_qB (t_X12_in n56 0 1000 (by omega) (by omega) (by omega)) (fun r57 hc_r57 hp2 => ?_)
    replace hp2 : ((r57 = 1 ∧ 0 ≤ n56 ∧ n56 ≤ 1000) ∨ (r57 = 0 ∧ (n56 < 0 ∨ 1000 < n56))) := hp2
    refine T_qEq ⟨by omega, by omega⟩ ⟨by decide, by decide⟩ (fun h3 => ?_) (fun h3 => ?_)
    ·
      refine T_some ?_
      show True
      exact trivial
    ·
      refine T_some ?_
      show ((0 ≤ (x4 + 1) ∧ (x4 + 1) ≤ 4) ∧ (R4 o x3 (x4 + 1))) ∧ (4 - (x4 + 1)).toNat < (4 - x4).toNat
      exact ⟨⟨(by omega), (by first | assumption | exact R4_0 | exact R4_s w1 (by omega) | (have q9 := w1; rwa [show x4 = 4 by omega] at q9))⟩, by omega⟩
  ·
    refine T_some ?_
    show (R4 o x3 4)
    exact (by first | assumption | exact R4_0 | exact R4_s w1 (by omega) | (have q9 := w1; rwa [show x4 = 4 by omega] at q9))
set_option maxRecDepth 20000 in
set_option maxHeartbeats 4000000 in
theorem tl_X12_line_140 (x1 : Int) (x2 : Int) (x3 : Int) (i_o : OO) (i_x4 : Int) (hB_i_o : BoxM i_o) (k0 : 0 ≤ x3 ∧ x3 ≤ 5) (k1 : R4 i_o x3 4) (v0 : 0 ≤ i_x4 ∧ i_x4 ≤ 64) : T (loopW (fun s => l_X12_line_140 x1 x2 x3 s.1 s.2) (i_o, i_x4)) (fun r => BoxM r ∧ (Fr [(39, 9999)] i_o r)) := by
  have fr_i_o : Fr [(39, 9999)] i_o i_o := Fr.rf
  refine T_loop (fun s => BoxM s.1 ∧ (Fr [(39, 9999)] i_o s.1) ∧ (0 ≤ s.2 ∧ s.2 ≤ 64)) (fun s => (64 - s.2).toNat) (by exact ⟨hB_i_o, fr_i_o, v0⟩) (fun s hs => ?_)
  obtain ⟨o, x4⟩ := s
  replace hs : BoxM o ∧ (Fr [(39, 9999)] i_o o) ∧ (0 ≤ x4 ∧ x4 ≤ 64) := hs
  obtain ⟨hB_o, fr_o, w0⟩ := hs
  have g0_32_i := bM_0_32 hB_i_o
  have g0_32_o : o.1 0 32 = i_o.1 0 32 := fr_o.1 0 32 rfl
  have r49 : R4 o x3 4 := R4.cg (show R4 i_o x3 4 by assumption) (fun j => fr_o.1 3 j rfl)
  show T (l_X12_line_140 x1 x2 x3 o x4) _
  unfold l_X12_line_140
  refine T_qLt ⟨by omega, by omega⟩ ⟨by decide, by decide⟩ (fun h4 => ?_) (fun h4 => ?_)
  ·
    refine T_qIn ⟨by omega, by omega⟩ ?_
    refine T_qNm (fun n48 e_n48 => ?_)
    have b_n48 : 0 ≤ n48 ∧ n48 ≤ 4 := by rw [e_n48]; exact bM_11 hB_o _
    refine T_qEq ⟨by omega, by omega⟩ ⟨by decide, by decide⟩ (fun h5 => ?_) (fun h5 => ?_)
    ·
      unfold b_X12_line_175
      refine T_qIn ⟨by omega, by omega⟩ ?_
      refine T_qNm (fun o46 e_o46 => ?_)
      have hB_o46 : BoxM o46 := by rw [e_o46]; exact Box.s1 hB_o (show 0 ≤ 0 ∧ 0 ≤ 2000 from ⟨by omega, by omega⟩)
      have fr_o46 : Fr [(39, 9999)] i_o o46 := by rw [e_o46]; exact Fr.s1 fr_o rfl
      have g0_32_o46 : o46.1 0 32 = o.1 0 32 := by rw [e_o46]; rfl
      refine T_some ?_
      show (BoxM o46 ∧ (Fr [(39, 9999)] i_o o46) ∧ (0 ≤ (x4 + 1) ∧ (x4 + 1) ≤ 64)) ∧ (64 - (x4 + 1)).toNat < (64 - x4).toNat
      exact ⟨⟨hB_o46, fr_o46, (by omega)⟩, by omega⟩
    ·
      refine T_qB (t_X12_costOf o x4 x3 hB_o (by omega) (by omega) (by assumption) (by omega)) (fun r49 hc_r49 hp6 => ?_)
      replace hp6 : (0 ≤ r49 ∧ r49 ≤ 2000) := hp6
      unfold b_X12_line_175
      refine T_qIn ⟨by omega, by omega⟩ ?_
      refine T_qNm (fun o46 e_o46 => ?_)
      have hB_o46 : BoxM o46 := by rw [e_o46]; exact Box.s1 hB_o (show 0 ≤ r49 ∧ r49 ≤ 2000 from ⟨by omega, by omega⟩)
      have fr_o46 : Fr [(39, 9999)] i_o o46 := by rw [e_o46]; exact Fr.s1 fr_o rfl
      have g0_32_o46 : o46.1 0 32 = o.1 0 32 := by rw [e_o46]; rfl
      refine T_some ?_
      show (BoxM o46 ∧ (Fr [(39, 9999)] i_o o46) ∧ (0 ≤ (x4 + 1) ∧ (x4 + 1) ≤ 64)) ∧ (64 - (x4 + 1)).toNat < (64 - x4).toNat
      exact ⟨⟨hB_o46, fr_o46, (by omega)⟩, by omega⟩
  ·
    refine T_some ?_
    show BoxM o ∧ (Fr [(39, 9999)] i_o o)
    exact ⟨hB_o, fr_o⟩
set_option maxRecDepth 20000 in
set_option maxHeartbeats 4000000 in
theorem tl_X12_line_292 (o : OO) (x2 : Int) (x4 : Int) (x5 : Int) (x6 : Int) (x7 : Int) (i_x8 : Int) (i_x9 : Int) (i_x10 : Int) (hB_o : BoxM o) (k0 : 0 ≤ x4 ∧ x4 ≤ 9999) (k1 : 0 ≤ x6 ∧ x6 ≤ 63) (k2 : 0 ≤ x7 ∧ x7 ≤ 4) (k3 : FEX o x6 x7 x4) (v0 : 0 ≤ i_x10 ∧ i_x10 ≤ 4) (v1 : -9 ≤ i_x8 ∧ i_x8 ≤ 63) (v2 : (i_x8 = -9 ∧ NFT o x6 x7 x4 i_x10) ∨ FD o x6 x7 x4 i_x8 i_x9) : T (loopW (fun s => l_X12_line_292 o x2 x4 x5 x6 x7 s.1 s.2.1 s.2.2) (i_x8, i_x9, i_x10)) (fun r => (FD o x6 x7 x4 r.1 r.2)) := by
  refine T_loop (fun s => (0 ≤ s.2.2 ∧ s.2.2 ≤ 4) ∧ (-9 ≤ s.1 ∧ s.1 ≤ 63) ∧ ((s.1 = -9 ∧ NFT o x6 x7 x4 s.2.2) ∨ FD o x6 x7 x4 s.1 s.2.1)) (fun s => (4 - s.2.2).toNat) (by exact ⟨v0, v1, v2⟩) (fun s hs => ?_)
  obtain ⟨x8, x9, x10⟩ := s
  replace hs : (0 ≤ x10 ∧ x10 ≤ 4) ∧ (-9 ≤ x8 ∧ x8 ≤ 63) ∧ ((x8 = -9 ∧ NFT o x6 x7 x4 x10) ∨ FD o x6 x7 x4 x8 x9) := hs
  obtain ⟨w0, w1, w2⟩ := hs
  have g0_32_o := bM_0_32 hB_o
  have fd1 : FD o x6 x7 x4 x8 x9 → 0 ≤ x8 := fun q => q.1
  show T (l_X12_line_292 o x2 x4 x5 x6 x7 x8 x9 x10) _
  unfold l_X12_line_292
  refine T_qLt ⟨by omega, by omega⟩ ⟨by decide, by decide⟩ (fun h7 => ?_) (fun h7 => ?_)
  ·
    refine T_qLt ⟨by omega, by omega⟩ ⟨by decide, by decide⟩ (fun h8 => ?_) (fun h8 => ?_)
    ·
      refine T_qB (t_X12_beside x6 x10 (by omega) (by omega)) (fun r12 hc_r12 hp9 => ?_)
      replace hp9 : (r12 = -9 ∨ (0 ≤ r12 ∧ r12 ≤ 63 ∧ (x10 = 0 ∧ r12 = x6 - 8 ∨ x10 = 1 ∧ r12 = x6 - 1 ∨ x10 = 2 ∧ r12 = x6 + 1 ∨ x10 = 3 ∧ r12 = x6 + 8))) ∧ (r12 = bsd x6 x10) := hp9
      have hps_hp9 := hp9
      obtain ⟨hp9_0, hp9_1⟩ := hps_hp9
      replace hp9 := hid hp9
      have hq12 := hp9_1
      refine T_qB (t_X12_leads o x6 r12 x4 hB_o (by omega) (by omega) (by omega)) (fun r14 hc_r14 hp10 => ?_)
      replace hp10 : ((r14 = 1 ∧ 0 ≤ r12) ∨ r14 = 0) := hp10
      have ld8 : ¬ r14 = 0 → LD o x6 r12 x4 := fun e => ⟨r14, hc_r14, e⟩
      refine T_qEq ⟨by omega, by omega⟩ ⟨by decide, by decide⟩ (fun h11 => ?_) (fun h11 => ?_)
      ·
        unfold b_X12_line_378
        refine T_some ?_
        show ((0 ≤ (x10 + 1) ∧ (x10 + 1) ≤ 4) ∧ (-9 ≤ x8 ∧ x8 ≤ 63) ∧ ((x8 = -9 ∧ NFT o x6 x7 x4 (x10 + 1)) ∨ FD o x6 x7 x4 x8 x9)) ∧ (4 - (x10 + 1)).toNat < (4 - x10).toNat
        exact ⟨⟨(by omega), (by omega), (by first | exact Or.inl ⟨rfl, NFT_0⟩ | exact w2.elim (fun q => Or.inl ⟨q.1, NFT_s q.2 (FIT_no1 hq12 hc_r14 (by omega))⟩) (fun q => absurd (fd1 q) (by omega)) | exact w2.elim (fun q => Or.inl ⟨q.1, NFT_s q.2 (FIT_no2 hq12 (by omega))⟩) (fun q => absurd (fd1 q) (by omega)) | exact w2.elim (fun q => Or.inl ⟨q.1, NFT_s q.2 (FIT_no3 hq12 (by omega))⟩) (fun q => absurd (fd1 q) (by omega)) | exact Or.inr ⟨by omega, by omega, by omega, by omega, hq12, by rw [← hq12]; exact ld8 (by omega), by rw [← hq12]; unfold FN; omega, by rw [← hq12]; omega⟩)⟩, by omega⟩
      ·
        refine T_qIn ⟨by omega, by omega⟩ ?_
        refine T_qNm (fun n17 e_n17 => ?_)
        have b_n17 : 0 ≤ n17 ∧ n17 ≤ 100000000 := by rw [e_n17]; exact bM_38 hB_o _
        refine T_qLt ⟨by omega, by omega⟩ ⟨by decide, by decide⟩ (fun h12 => ?_) (fun h12 => ?_)
        ·
          refine T_qB (t_X12_goOn o x6 x7 x10 r12 hB_o (by omega) (by omega) (by omega) (by omega)) (fun r18 hc_r18 hp13 => ?_)
          replace hp13 : (0 ≤ r18 ∧ r18 ≤ 100100000) ∧ (r18 = GV o x6 x7 x10 r12) := hp13
          have hps_hp13 := hp13
          obtain ⟨hp13_0, hp13_1⟩ := hps_hp13
          replace hp13 := hid hp13
          refine T_qIn ⟨by omega, by omega⟩ ?_
          refine T_qNm (fun n21 e_n21 => ?_)
          have b_n21 : 0 ≤ n21 ∧ n21 ≤ 100000000 := by rw [e_n21]; exact bM_38 hB_o _
          refine T_qEq ⟨by omega, by omega⟩ ⟨by omega, by omega⟩ (fun h14 => ?_) (fun h14 => ?_)
          ·
            unfold b_X12_line_378
            refine T_some ?_
            show ((0 ≤ (x10 + 1) ∧ (x10 + 1) ≤ 4) ∧ (-9 ≤ r12 ∧ r12 ≤ 63) ∧ ((r12 = -9 ∧ NFT o x6 x7 x4 (x10 + 1)) ∨ FD o x6 x7 x4 r12 x10)) ∧ (4 - (x10 + 1)).toNat < (4 - x10).toNat
            exact ⟨⟨(by omega), (by omega), (by first | exact Or.inl ⟨rfl, NFT_0⟩ | exact w2.elim (fun q => Or.inl ⟨q.1, NFT_s q.2 (FIT_no1 hq12 hc_r14 (by omega))⟩) (fun q => absurd (fd1 q) (by omega)) | exact w2.elim (fun q => Or.inl ⟨q.1, NFT_s q.2 (FIT_no2 hq12 (by omega))⟩) (fun q => absurd (fd1 q) (by omega)) | exact w2.elim (fun q => Or.inl ⟨q.1, NFT_s q.2 (FIT_no3 hq12 (by omega))⟩) (fun q => absurd (fd1 q) (by omega)) | exact Or.inr ⟨by omega, by omega, by omega, by omega, hq12, by rw [← hq12]; exact ld8 (by omega), by rw [← hq12]; unfold FN; omega, by rw [← hq12]; omega⟩)⟩, by omega⟩
          ·
            unfold b_X12_line_378
            refine T_some ?_
            show ((0 ≤ (x10 + 1) ∧ (x10 + 1) ≤ 4) ∧ (-9 ≤ x8 ∧ x8 ≤ 63) ∧ ((x8 = -9 ∧ NFT o x6 x7 x4 (x10 + 1)) ∨ FD o x6 x7 x4 x8 x9)) ∧ (4 - (x10 + 1)).toNat < (4 - x10).toNat
            exact ⟨⟨(by omega), (by omega), (by first | exact Or.inl ⟨rfl, NFT_0⟩ | exact w2.elim (fun q => Or.inl ⟨q.1, NFT_s q.2 (FIT_no1 hq12 hc_r14 (by omega))⟩) (fun q => absurd (fd1 q) (by omega)) | exact w2.elim (fun q => Or.inl ⟨q.1, NFT_s q.2 (FIT_no2 hq12 (by omega))⟩) (fun q => absurd (fd1 q) (by omega)) | exact w2.elim (fun q => Or.inl ⟨q.1, NFT_s q.2 (FIT_no3 hq12 (by omega))⟩) (fun q => absurd (fd1 q) (by omega)) | exact Or.inr ⟨by omega, by omega, by omega, by omega, hq12, by rw [← hq12]; exact ld8 (by omega), by rw [← hq12]; unfold FN; omega, by rw [← hq12]; omega⟩)⟩, by omega⟩
        ·
          unfold b_X12_line_378
          refine T_some ?_
          show ((0 ≤ (x10 + 1) ∧ (x10 + 1) ≤ 4) ∧ (-9 ≤ x8 ∧ x8 ≤ 63) ∧ ((x8 = -9 ∧ NFT o x6 x7 x4 (x10 + 1)) ∨ FD o x6 x7 x4 x8 x9)) ∧ (4 - (x10 + 1)).toNat < (4 - x10).toNat
          exact ⟨⟨(by omega), (by omega), (by first | exact Or.inl ⟨rfl, NFT_0⟩ | exact w2.elim (fun q => Or.inl ⟨q.1, NFT_s q.2 (FIT_no1 hq12 hc_r14 (by omega))⟩) (fun q => absurd (fd1 q) (by omega)) | exact w2.elim (fun q => Or.inl ⟨q.1, NFT_s q.2 (FIT_no2 hq12 (by omega))⟩) (fun q => absurd (fd1 q) (by omega)) | exact w2.elim (fun q => Or.inl ⟨q.1, NFT_s q.2 (FIT_no3 hq12 (by omega))⟩) (fun q => absurd (fd1 q) (by omega)) | exact Or.inr ⟨by omega, by omega, by omega, by omega, hq12, by rw [← hq12]; exact ld8 (by omega), by rw [← hq12]; unfold FN; omega, by rw [← hq12]; omega⟩)⟩, by omega⟩
    ·
      refine T_some ?_
      show (FD o x6 x7 x4 x8 x9)
      exact (by first | exact w2.elim (fun q => absurd (NFT_no q.2 (by omega) (by assumption)) id) id | exact w2.elim (fun q => absurd q.1 (by omega)) id)
  ·
    refine T_some ?_
    show (FD o x6 x7 x4 x8 x9)
    exact (by first | exact w2.elim (fun q => absurd (NFT_no q.2 (by omega) (by assumption)) id) id | exact w2.elim (fun q => absurd q.1 (by omega)) id)
set_option maxRecDepth 20000 in
set_option maxHeartbeats 4000000 in
theorem tl_X12_line_276 (x2 : Int) (x4 : Int) (x5 : Int) (i_o : OO) (i_x6 : Int) (i_x7 : Int) (hB_i_o : BoxM i_o) (k0 : 0 ≤ x2 ∧ x2 ≤ 63) (k1 : 0 ≤ x4 ∧ x4 ≤ 9999) (k2 : 0 ≤ x5 ∧ x5 ≤ 23) (k3 : SBI i_o x2 x4) (k4 : B1 i_o x2 x4) (v0 : 0 ≤ i_x6 ∧ i_x6 ≤ 63) (v1 : 0 ≤ i_x7 ∧ i_x7 ≤ 4) (v2 : FN i_o (5 * i_x6 + i_x7)) (v3 : PW i_o x5 i_x6 i_x7) (v4 : GTt i_o i_x6 i_x7) : T (loopW (fun s => l_X12_line_276 x2 x4 x5 s.1 s.2.1 s.2.2) (i_o, i_x6, i_x7)) (fun r => BoxM r ∧ (Fr [(30, 9999), (31, 9999)] i_o r)) := by
  have fr_i_o : Fr [(30, 9999), (31, 9999)] i_o i_o := Fr.rf
  refine T_loop (fun s => BoxM s.1 ∧ (Fr [(30, 9999), (31, 9999)] i_o s.1) ∧ (0 ≤ s.2.1 ∧ s.2.1 ≤ 63) ∧ (0 ≤ s.2.2 ∧ s.2.2 ≤ 4) ∧ (FN s.1 (5 * s.2.1 + s.2.2)) ∧ (PW s.1 x5 s.2.1 s.2.2) ∧ (GTt s.1 s.2.1 s.2.2)) (fun s => (65 - s.1.1 30 x5.toNat).toNat) (by exact ⟨hB_i_o, fr_i_o, v0, v1, v2, v3, v4⟩) (fun s hs => ?_)
  obtain ⟨o, x6, x7⟩ := s
  replace hs : BoxM o ∧ (Fr [(30, 9999), (31, 9999)] i_o o) ∧ (0 ≤ x6 ∧ x6 ≤ 63) ∧ (0 ≤ x7 ∧ x7 ≤ 4) ∧ (FN o (5 * x6 + x7)) ∧ (PW o x5 x6 x7) ∧ (GTt o x6 x7) := hs
  obtain ⟨hB_o, fr_o, w0, w1, w2, w3, w4⟩ := hs
  have g0_32_i := bM_0_32 hB_i_o
  have g0_32_o : o.1 0 32 = i_o.1 0 32 := fr_o.1 0 32 rfl
  have u9 : U38 i_o o := U38.of fr_o (fun _ => rfl) (fun _ => rfl) (fun _ => rfl) (fun k => Int.le_of_eq (fr_o.1 38 k rfl))
  have sb9 : SBI o x2 x4 := SBI.cg u9 (fun k => fr_o.1 38 k rfl) (by assumption)
  have b19 : B1 o x2 x4 := B1.cg u9 (fun k => fr_o.1 38 k rfl) (by assumption)
  have pw1 := w3.1
  have pw2 := w3.2.1
  show T (l_X12_line_276 x2 x4 x5 o x6 x7) _
  unfold l_X12_line_276
  refine T_qEq ⟨by omega, by omega⟩ ⟨by omega, by omega⟩ (fun h15 => ?_) (fun h15 => ?_)
  ·
    refine T_some ?_
    show BoxM o ∧ (Fr [(30, 9999), (31, 9999)] i_o o)
    exact ⟨hB_o, fr_o⟩
  ·
    unfold e_X12_line_292
    refine T_qB (tl_X12_line_292 o x2 x4 x5 x6 x7 (-9) 0 0 hB_o (by omega) (by omega) (by omega) (FEX_of b19 sb9 w0 (by omega) w1 w2) (by omega) (by omega) (by first | exact Or.inl ⟨rfl, NFT_0⟩ | exact w2.elim (fun q => Or.inl ⟨q.1, NFT_s q.2 (FIT_no1 hq12 hc_r14 (by omega))⟩) (fun q => absurd (fd1 q) (by omega)) | exact w2.elim (fun q => Or.inl ⟨q.1, NFT_s q.2 (FIT_no2 hq12 (by omega))⟩) (fun q => absurd (fd1 q) (by omega)) | exact w2.elim (fun q => Or.inl ⟨q.1, NFT_s q.2 (FIT_no3 hq12 (by omega))⟩) (fun q => absurd (fd1 q) (by omega)) | exact Or.inr ⟨by omega, by omega, by omega, by omega, hq12, by rw [← hq12]; exact ld8 (by omega), by rw [← hq12]; unfold FN; omega, by rw [← hq12]; omega⟩)) (fun r16 hc_r16 hp17 => ?_)
    obtain ⟨x8_18, x9_19⟩ := r16
    replace hp17 : (FD o x6 x7 x4 x8_18 x9_19) := hp17
    show T (b_X12_line_384 o x2 x4 x5 x8_18 x9_19) _
    have fd9 : FD o x6 x7 x4 x8_18 x9_19 := hp17
    have pn9 := PW_next hB_o b19 sb9 (by omega) w0 w1 (by omega) w4 fd9 w3
    have fd0 := fd9.1
    have fd1 := fd9.2.1
    have fd2 := fd9.2.2.1
    have fd3 := fd9.2.2.2.1
    have pn1 := pn9.1
    unfold b_X12_line_384
    refine T_qIn ⟨by omega, by omega⟩ ?_
    refine T_qNm (fun n5 e_n5 => ?_)
    have b_n5 : 0 ≤ n5 ∧ n5 ≤ 64 := by rw [e_n5]; exact bM_30 hB_o _
    refine T_qIn ⟨by omega, by omega⟩ ?_
    refine T_qNm (fun o7 e_o7 => ?_)
    have hB_o7 : BoxM o7 := by rw [e_o7]; exact Box.s1 hB_o (show 0 ≤ x8_18 ∧ x8_18 ≤ 63 from ⟨by omega, by omega⟩)
    have fr_o7 : Fr [(30, 9999), (31, 9999)] i_o o7 := by rw [e_o7]; exact Fr.s1 fr_o rfl
    have g0_32_o7 : o7.1 0 32 = o.1 0 32 := by rw [e_o7]; rfl
    refine T_qIn ⟨by omega, by omega⟩ ?_
    refine T_qNm (fun n9 e_n9 => ?_)
    have b_n9 : 0 ≤ n9 ∧ n9 ≤ 64 := by rw [e_n9]; exact bM_30 hB_o7 _
    have h95 : n9 = n5 := by rw [e_n9, e_o7, e_n5]; rfl
    refine T_qIn ⟨by omega, by omega⟩ ?_
    refine T_qNm (fun o11 e_o11 => ?_)
    have hB_o11 : BoxM o11 := by rw [e_o11]; exact Box.s1 hB_o7 (show 0 ≤ (n9 + 1) ∧ (n9 + 1) ≤ 64 from ⟨by omega, by omega⟩)
    have fr_o11 : Fr [(30, 9999), (31, 9999)] i_o o11 := by rw [e_o11]; exact Fr.s1 fr_o7 rfl
    have g0_32_o11 : o11.1 0 32 = o7.1 0 32 := by rw [e_o11]; rfl
    have pn11 : PW o11 x5 x8_18 x9_19 := by have q9 := pn9.2; rw [e_o11, e_o7]; rw [e_n9, e_o7]; rw [e_n5]; exact q9
    have s11 : ∀ k, o11.1 38 k = o.1 38 k := fun k => by rw [e_o11, e_o7]; rfl
    have fn11 : FN o11 (5 * x8_18 + x9_19) := by unfold FN; rw [s11]; have q9 := fd9.2.2.2.2.2.2.1; rw [← fd9.2.2.2.2.1] at q9; exact q9
    have gg11 : GTt o11 x8_18 x9_19 := by have q9 := good_on hB_o b19 sb9 w0 w1 (by omega) w4 fd9; intro q; show o11.1 38 _ < o11.1 38 _ + 5; rw [s11, s11]; exact q9 q
    have n11 : o11.1 30 x5.toNat = o.1 30 x5.toNat + 1 := by rw [e_o11, st1_eq, e_n9, e_o7]; rfl
    refine T_some ?_
    show (BoxM o11 ∧ (Fr [(30, 9999), (31, 9999)] i_o o11) ∧ (0 ≤ x8_18 ∧ x8_18 ≤ 63) ∧ (0 ≤ x9_19 ∧ x9_19 ≤ 4) ∧ (FN o11 (5 * x8_18 + x9_19)) ∧ (PW o11 x5 x8_18 x9_19) ∧ (GTt o11 x8_18 x9_19)) ∧ (65 - o11.1 30 x5.toNat).toNat < (65 - o.1 30 x5.toNat).toNat
    exact ⟨⟨hB_o11, fr_o11, (by omega), (by omega), (by assumption), (by assumption), (by assumption)⟩, by omega⟩
set_option maxRecDepth 20000 in
set_option maxHeartbeats 4000000 in
theorem t_X12_line (o : OO) (x1 : Int) (x2 : Int) (x3 : Int) (hB_o : BoxM o) (k0 : inR x1) (k1 : inR x2) (k2 : inR x3) : T (s_X12_line o x1 x2 x3) (fun v => BoxM v.2 ∧ (Fr [(0, 0), (0, 32), (1, 9999), (25, 9999), (26, 9999), (27, 9999), (28, 9999), (29, 9999), (30, 9999), (31, 9999), (38, 9999), (39, 9999)] o v.2)) := by
  have fr_o : Fr [(0, 0), (0, 32), (1, 9999), (25, 9999), (26, 9999), (27, 9999), (28, 9999), (29, 9999), (30, 9999), (31, 9999), (38, 9999), (39, 9999)] o o := Fr.rf
  have g0_32_o := bM_0_32 hB_o
  unfold s_X12_line
  refine T_qB (t_X12_isCell x1 (by omega)) (fun r59 hc_r59 hp20 => ?_)
  replace hp20 : ((r59 = 1 ∧ 0 ≤ x1 ∧ x1 ≤ 63) ∨ (r59 = 0 ∧ (x1 < 0 ∨ 63 < x1))) := hp20
  refine T_qEq ⟨by omega, by omega⟩ ⟨by decide, by decide⟩ (fun h21 => ?_) (fun h21 => ?_)
  ·
    unfold b_X12_line_26
    refine T_some ?_
    show BoxM o ∧ (Fr [(0, 0), (0, 32), (1, 9999), (25, 9999), (26, 9999), (27, 9999), (28, 9999), (29, 9999), (30, 9999), (31, 9999), (38, 9999), (39, 9999)] o o)
    exact ⟨hB_o, fr_o⟩
  ·
    refine T_qB (t_X12_isCell x2 (by omega)) (fun r61 hc_r61 hp22 => ?_)
    replace hp22 : ((r61 = 1 ∧ 0 ≤ x2 ∧ x2 ≤ 63) ∨ (r61 = 0 ∧ (x2 < 0 ∨ 63 < x2))) := hp22
    refine T_qEq ⟨by omega, by omega⟩ ⟨by decide, by decide⟩ (fun h23 => ?_) (fun h23 => ?_)
    ·
      unfold b_X12_line_26
      refine T_some ?_
      show BoxM o ∧ (Fr [(0, 0), (0, 32), (1, 9999), (25, 9999), (26, 9999), (27, 9999), (28, 9999), (29, 9999), (30, 9999), (31, 9999), (38, 9999), (39, 9999)] o o)
      exact ⟨hB_o, fr_o⟩
    ·
      refine T_qEq ⟨by omega, by omega⟩ ⟨by omega, by omega⟩ (fun h24 => ?_) (fun h24 => ?_)
      ·
        unfold b_X12_line_26
        refine T_some ?_
        show BoxM o ∧ (Fr [(0, 0), (0, 32), (1, 9999), (25, 9999), (26, 9999), (27, 9999), (28, 9999), (29, 9999), (30, 9999), (31, 9999), (38, 9999), (39, 9999)] o o)
        exact ⟨hB_o, fr_o⟩
      ·
        refine T_qB (t_X12_isRow x3 (by omega)) (fun r63 hc_r63 hp25 => ?_)
        replace hp25 : ((r63 = 1 ∧ 0 ≤ x3 ∧ x3 ≤ 5) ∨ (r63 = 0 ∧ (x3 < 0 ∨ 5 < x3))) := hp25
        refine T_qEq ⟨by omega, by omega⟩ ⟨by decide, by decide⟩ (fun h26 => ?_) (fun h26 => ?_)
        ·
          unfold b_X12_line_26
          refine T_some ?_
          show BoxM o ∧ (Fr [(0, 0), (0, 32), (1, 9999), (25, 9999), (26, 9999), (27, 9999), (28, 9999), (29, 9999), (30, 9999), (31, 9999), (38, 9999), (39, 9999)] o o)
          exact ⟨hB_o, fr_o⟩
        ·
          refine T_qEq ⟨by omega, by omega⟩ ⟨by decide, by decide⟩ (fun h27 => ?_) (fun h27 => ?_)
          ·
            refine T_some ?_
            show BoxM o ∧ (Fr [(0, 0), (0, 32), (1, 9999), (25, 9999), (26, 9999), (27, 9999), (28, 9999), (29, 9999), (30, 9999), (31, 9999), (38, 9999), (39, 9999)] o o)
            exact ⟨hB_o, fr_o⟩
          ·
            refine T_qIn ⟨by omega, by omega⟩ ?_
            refine T_qNm (fun n66 e_n66 => ?_)
            have b_n66 : -9 ≤ n66 ∧ n66 ≤ 40 := by rw [e_n66]; exact bM_2 hB_o _
            refine T_qLt ⟨by omega, by omega⟩ ⟨by decide, by decide⟩ (fun h28 => ?_) (fun h28 => ?_)
            ·
              refine T_qB2 (t_X12_meets o 1 hB_o (by omega)) (fun r72 o74 hc_r72 hp29 => ?_)
              replace hp29 : BoxM o74 ∧ (Fr [(0, 0), (1, 9999)] o o74) ∧ (r72 = -3) := hp29
              obtain ⟨hB_o74, fc_o74, hp29⟩ := hp29
              have fr_o74 : Fr [(0, 0), (0, 32), (1, 9999), (25, 9999), (26, 9999), (27, 9999), (28, 9999), (29, 9999), (30, 9999), (31, 9999), (38, 9999), (39, 9999)] o o74 := Fr.tr fr_o fc_o74 rfl
              have g0_32_o74 : o74.1 0 32 = o.1 0 32 := fc_o74.1 0 32 rfl
              refine T_some ?_
              show BoxM o74 ∧ (Fr [(0, 0), (0, 32), (1, 9999), (25, 9999), (26, 9999), (27, 9999), (28, 9999), (29, 9999), (30, 9999), (31, 9999), (38, 9999), (39, 9999)] o o74)
              exact ⟨hB_o74, fr_o74⟩
            ·
              refine T_qIn ⟨by omega, by omega⟩ ?_
              refine T_qNm (fun n68 e_n68 => ?_)
              have b_n68 : -9 ≤ n68 ∧ n68 ≤ 40 := by rw [e_n68]; exact bM_2 hB_o _
              refine T_qEq ⟨by omega, by omega⟩ ⟨by decide, by decide⟩ (fun h30 => ?_) (fun h30 => ?_)
              ·
                unfold e_X12_line_74
                refine T_qB (tl_X12_line_74 o x1 x2 x3 0 hB_o (by omega) (by omega) (by first | assumption | exact R4_0 | exact R4_s w1 (by omega) | (have q9 := w1; rwa [show x4 = 4 by omega] at q9))) (fun r31 hc_r31 hp32 => ?_)
                rcases r31 with r31 | r31
                ·
                  show T (b_X12_line_102 o) _
                  unfold b_X12_line_102
                  refine T_qB2 (t_X12_meets o 3 hB_o (by omega)) (fun r1 o3 hc_r1 hp33 => ?_)
                  replace hp33 : BoxM o3 ∧ (Fr [(0, 0), (1, 9999)] o o3) ∧ (r1 = -3) := hp33
                  obtain ⟨hB_o3, fc_o3, hp33⟩ := hp33
                  have fr_o3 : Fr [(0, 0), (0, 32), (1, 9999), (25, 9999), (26, 9999), (27, 9999), (28, 9999), (29, 9999), (30, 9999), (31, 9999), (38, 9999), (39, 9999)] o o3 := Fr.tr fr_o fc_o3 rfl
                  have g0_32_o3 : o3.1 0 32 = o.1 0 32 := fc_o3.1 0 32 rfl
                  refine T_some ?_
                  show BoxM o3 ∧ (Fr [(0, 0), (0, 32), (1, 9999), (25, 9999), (26, 9999), (27, 9999), (28, 9999), (29, 9999), (30, 9999), (31, 9999), (38, 9999), (39, 9999)] o o3)
                  exact ⟨hB_o3, fr_o3⟩
                ·
                  replace hp32 : (R4 o x3 4) := hp32
                  show T (b_X12_line_114 o x1 x2 x3) _
                  unfold b_X12_line_114
                  refine T_qIn ⟨by omega, by omega⟩ ?_
                  refine T_qNm (fun n52 e_n52 => ?_)
                  have b_n52 : 0 ≤ n52 ∧ n52 ≤ 4 := by rw [e_n52]; exact bM_11 hB_o _
                  refine T_qEq ⟨by omega, by omega⟩ ⟨by decide, by decide⟩ (fun h34 => ?_) (fun h34 => ?_)
                  ·
                    unfold b_X12_line_134
                    refine T_some ?_
                    show BoxM o ∧ (Fr [(0, 0), (0, 32), (1, 9999), (25, 9999), (26, 9999), (27, 9999), (28, 9999), (29, 9999), (30, 9999), (31, 9999), (38, 9999), (39, 9999)] o o)
                    exact ⟨hB_o, fr_o⟩
                  ·
                    refine T_qIn ⟨by omega, by omega⟩ ?_
                    refine T_qNm (fun n54 e_n54 => ?_)
                    have b_n54 : 0 ≤ n54 ∧ n54 ≤ 4 := by rw [e_n54]; exact bM_11 hB_o _
                    refine T_qEq ⟨by omega, by omega⟩ ⟨by decide, by decide⟩ (fun h35 => ?_) (fun h35 => ?_)
                    ·
                      unfold b_X12_line_134
                      refine T_some ?_
                      show BoxM o ∧ (Fr [(0, 0), (0, 32), (1, 9999), (25, 9999), (26, 9999), (27, 9999), (28, 9999), (29, 9999), (30, 9999), (31, 9999), (38, 9999), (39, 9999)] o o)
                      exact ⟨hB_o, fr_o⟩
                    ·
                      unfold e_X12_line_140
                      refine T_qB (tl_X12_line_140 x1 x2 x3 o 0 hB_o (by omega) (by first | assumption | exact R4_0 | exact R4_s w1 (by omega) | (have q9 := w1; rwa [show x4 = 4 by omega] at q9)) (by omega)) (fun r36 hc_r36 hp37 => ?_)
                      obtain ⟨o_38, q_o_38⟩ : ∃ q, q = r36 := ⟨_, rfl⟩
                      subst q_o_38
                      replace hp37 : BoxM o_38 ∧ (Fr [(39, 9999)] o o_38) := hp37
                      have hps_hp37 := hp37
                      obtain ⟨hp37_0, hp37_1⟩ := hps_hp37
                      obtain ⟨hB_o_38, fc_o_38⟩ := hp37
                      have fr_o_38 : Fr [(0, 0), (0, 32), (1, 9999), (25, 9999), (26, 9999), (27, 9999), (28, 9999), (29, 9999), (30, 9999), (31, 9999), (38, 9999), (39, 9999)] o o_38 := Fr.tr fr_o fc_o_38 rfl
                      have g0_32_o_38 : o_38.1 0 32 = o.1 0 32 := fc_o_38.1 0 32 rfl
                      show T (b_X12_line_182 o_38 x1 x2) _
                      unfold b_X12_line_182
                      refine T_qB (t_X12_nowInForce o_38 0 hB_o_38 (by omega)) (fun r22 hc_r22 hp39 => ?_)
                      replace hp39 : (0 ≤ r22 ∧ r22 ≤ 9999) := hp39
                      refine T_qB (t_X12_setLeft o_38 x2 r22 hB_o_38 (by omega) (by omega)) (fun o26 hc_o26 hp40 => ?_)
                      replace hp40 : BoxM o26 ∧ (Fr [(38, 9999)] o_38 o26) ∧ (SBI o26 x2 r22) ∧ (B1 o26 x2 r22) := hp40
                      obtain ⟨hB_o26, fc_o26, hp40⟩ := hp40
                      have fr_o26 : Fr [(0, 0), (0, 32), (1, 9999), (25, 9999), (26, 9999), (27, 9999), (28, 9999), (29, 9999), (30, 9999), (31, 9999), (38, 9999), (39, 9999)] o o26 := Fr.tr fr_o_38 fc_o26 rfl
                      have g0_32_o26 : o26.1 0 32 = o_38.1 0 32 := fc_o26.1 0 32 rfl
                      have sb26 : SBI o26 x2 r22 := hp40.1
                      have b126 : B1 o26 x2 r22 := hp40.2
                      have cfu := (CG_le (f := fun k => 99999999 - o26.1 38 k) (n := 320) (by omega)).1
                      have b328 := sb26.2.2 (5 * x1 + 4).toNat (by omega)
                      have cf9 : CF o26 = CG (fun k => 99999999 - o26.1 38 k) 320 := rfl
                      refine T_qIn ⟨by omega, by omega⟩ ?_
                      refine T_qNm (fun n28 e_n28 => ?_)
                      have b_n28 : 0 ≤ n28 ∧ n28 ≤ 100000000 := by rw [e_n28]; exact bM_38 hB_o26 _
                      refine T_qEq ⟨by omega, by omega⟩ ⟨by decide, by decide⟩ (fun h41 => ?_) (fun h41 => ?_)
                      ·
                        refine T_qB2 (t_X12_meets o26 1 hB_o26 (by omega)) (fun r42 o44 hc_r42 hp42 => ?_)
                        replace hp42 : BoxM o44 ∧ (Fr [(0, 0), (1, 9999)] o26 o44) ∧ (r42 = -3) := hp42
                        obtain ⟨hB_o44, fc_o44, hp42⟩ := hp42
                        have fr_o44 : Fr [(0, 0), (0, 32), (1, 9999), (25, 9999), (26, 9999), (27, 9999), (28, 9999), (29, 9999), (30, 9999), (31, 9999), (38, 9999), (39, 9999)] o o44 := Fr.tr fr_o26 fc_o44 rfl
                        have g0_32_o44 : o44.1 0 32 = o26.1 0 32 := fc_o44.1 0 32 rfl
                        refine T_some ?_
                        show BoxM o44 ∧ (Fr [(0, 0), (0, 32), (1, 9999), (25, 9999), (26, 9999), (27, 9999), (28, 9999), (29, 9999), (30, 9999), (31, 9999), (38, 9999), (39, 9999)] o o44)
                        exact ⟨hB_o44, fr_o44⟩
                      ·
                        refine T_qB2 (t_X12_enter o26 1 (-9) hB_o26 (by omega) (by omega) (by omega)) (fun r29 o31 hc_r29 hp43 => ?_)
                        replace hp43 : BoxM o31 ∧ (Fr [(0, 32), (25, 9999), (26, 9999), (27, 9999), (29, 9999), (30, 9999)] o26 o31) ∧ (r29 = o26.1 0 32) ∧ (o31.1 0 32 = o26.1 0 32 + 1) := hp43
                        obtain ⟨hB_o31, fc_o31, hp43⟩ := hp43
                        have fr_o31 : Fr [(0, 0), (0, 32), (1, 9999), (25, 9999), (26, 9999), (27, 9999), (28, 9999), (29, 9999), (30, 9999), (31, 9999), (38, 9999), (39, 9999)] o o31 := Fr.tr fr_o26 fc_o31 rfl
                        have g0_32_o31 := bM_0_32 hB_o31
                        have e38 := fc_o31.1 38 (5 * x1 + 4).toNat rfl
                        have u31 : U38 o26 o31 := U38.of fc_o31 (fun _ => rfl) (fun _ => rfl) (fun _ => rfl) (fun k => Int.le_of_eq (fc_o31.1 38 k rfl))
                        have b329 := b328 (by omega)
                        refine T_qIn ⟨by omega, by omega⟩ ?_
                        refine T_qNm (fun n33 e_n33 => ?_)
                        have b_n33 : 0 ≤ n33 ∧ n33 ≤ 2000 := by rw [e_n33]; exact bM_39 hB_o31 _
                        refine T_qIn ⟨by omega, by omega⟩ ?_
                        refine T_qNm (fun n35 e_n35 => ?_)
                        have b_n35 : 0 ≤ n35 ∧ n35 ≤ 100000000 := by rw [e_n35]; exact bM_38 hB_o31 _
                        refine T_qIn ⟨by omega, by omega⟩ ?_
                        refine T_qNm (fun o37 e_o37 => ?_)
                        have hB_o37 : BoxM o37 := by rw [e_o37]; exact Box.s1 hB_o31 (show 0 ≤ (n33 + n35) ∧ (n33 + n35) ≤ 1000000 from ⟨by omega, by omega⟩)
                        have fr_o37 : Fr [(0, 0), (0, 32), (1, 9999), (25, 9999), (26, 9999), (27, 9999), (28, 9999), (29, 9999), (30, 9999), (31, 9999), (38, 9999), (39, 9999)] o o37 := by rw [e_o37]; exact Fr.s1 fr_o31 rfl
                        have g0_32_o37 : o37.1 0 32 = o31.1 0 32 := by rw [e_o37]; rfl
                        refine T_qIn ⟨by omega, by omega⟩ ?_
                        refine T_qNm (fun o39 e_o39 => ?_)
                        have hB_o39 : BoxM o39 := by rw [e_o39]; exact Box.s1 hB_o37 (show 0 ≤ x1 ∧ x1 ≤ 63 from ⟨by omega, by omega⟩)
                        have fr_o39 : Fr [(0, 0), (0, 32), (1, 9999), (25, 9999), (26, 9999), (27, 9999), (28, 9999), (29, 9999), (30, 9999), (31, 9999), (38, 9999), (39, 9999)] o o39 := by rw [e_o39]; exact Fr.s1 fr_o37 rfl
                        have g0_32_o39 : o39.1 0 32 = o37.1 0 32 := by rw [e_o39]; rfl
                        refine T_qIn ⟨by omega, by omega⟩ ?_
                        refine T_qNm (fun o41 e_o41 => ?_)
                        have hB_o41 : BoxM o41 := by rw [e_o41]; exact Box.s1 hB_o39 (show 0 ≤ 1 ∧ 1 ≤ 64 from ⟨by omega, by omega⟩)
                        have fr_o41 : Fr [(0, 0), (0, 32), (1, 9999), (25, 9999), (26, 9999), (27, 9999), (28, 9999), (29, 9999), (30, 9999), (31, 9999), (38, 9999), (39, 9999)] o o41 := by rw [e_o41]; exact Fr.s1 fr_o39 rfl
                        have g0_32_o41 : o41.1 0 32 = o39.1 0 32 := by rw [e_o41]; rfl
                        have u41 : U38 o26 o41 := by rw [e_o41, e_o39, e_o37]; exact u31
                        have h41 : ∀ k, o41.1 38 k = o26.1 38 k := fun k => by rw [e_o41, e_o39, e_o37]; exact fc_o31.1 38 k rfl
                        have sb41 : SBI o41 x2 r22 := sb26.cg u41 h41
                        have b141 : B1 o41 x2 r22 := b126.cg u41 h41
                        have pw41 : PW o41 r29 x1 4 := PW_0 (by rw [e_o41]; exact st1_eq) (by rw [e_o41, e_o39]; show (st1 o37 31 (64 * r29).toNat x1).1 31 (64 * r29).toNat = x1; exact st1_eq)
                        have fn41 : FN o41 (5 * x1 + 4) := by unfold FN; rw [h41]; omega
                        have gg41 : GTt o41 x1 4 := fun q => absurd q (by decide)
                        unfold e_X12_line_276
                        refine T_qB (tl_X12_line_276 x2 r22 r29 o41 x1 4 hB_o41 (by omega) (by omega) (by omega) (by assumption) (by assumption) (by omega) (by omega) (by assumption) (by assumption) (by assumption)) (fun r44 hc_r44 hp45 => ?_)
                        obtain ⟨o_46, q_o_46⟩ : ∃ q, q = r44 := ⟨_, rfl⟩
                        subst q_o_46
                        replace hp45 : BoxM o_46 ∧ (Fr [(30, 9999), (31, 9999)] o41 o_46) := hp45
                        have hps_hp45 := hp45
                        obtain ⟨hp45_0, hp45_1⟩ := hps_hp45
                        obtain ⟨hB_o_46, fc_o_46⟩ := hp45
                        have fr_o_46 : Fr [(0, 0), (0, 32), (1, 9999), (25, 9999), (26, 9999), (27, 9999), (28, 9999), (29, 9999), (30, 9999), (31, 9999), (38, 9999), (39, 9999)] o o_46 := Fr.tr fr_o41 fc_o_46 rfl
                        have g0_32_o_46 : o_46.1 0 32 = o41.1 0 32 := fc_o_46.1 0 32 rfl
                        show T (b_X12_line_426 o_46 r29) _
                        unfold b_X12_line_426
                        refine T_some ?_
                        show BoxM o_46 ∧ (Fr [(0, 0), (0, 32), (1, 9999), (25, 9999), (26, 9999), (27, 9999), (28, 9999), (29, 9999), (30, 9999), (31, 9999), (38, 9999), (39, 9999)] o o_46)
                        exact ⟨hB_o_46, fr_o_46⟩
              ·
                refine T_qB2 (t_X12_meets o 5 hB_o (by omega)) (fun r69 o71 hc_r69 hp47 => ?_)
                replace hp47 : BoxM o71 ∧ (Fr [(0, 0), (1, 9999)] o o71) ∧ (r69 = -3) := hp47
                obtain ⟨hB_o71, fc_o71, hp47⟩ := hp47
                have fr_o71 : Fr [(0, 0), (0, 32), (1, 9999), (25, 9999), (26, 9999), (27, 9999), (28, 9999), (29, 9999), (30, 9999), (31, 9999), (38, 9999), (39, 9999)] o o71 := Fr.tr fr_o fc_o71 rfl
                have g0_32_o71 : o71.1 0 32 = o.1 0 32 := fc_o71.1 0 32 rfl
                refine T_some ?_
                show BoxM o71 ∧ (Fr [(0, 0), (0, 32), (1, 9999), (25, 9999), (26, 9999), (27, 9999), (28, 9999), (29, 9999), (30, 9999), (31, 9999), (38, 9999), (39, 9999)] o o71)
                exact ⟨hB_o71, fr_o71⟩
set_option maxRecDepth 20000 in
set_option maxHeartbeats 4000000 in
theorem t_X12_mark (o : OO) (x1 : Int) (x2 : Int) (hB_o : BoxM o) (k0 : inR x1) (k1 : inR x2) : T (s_X12_mark o x1 x2) (fun v => BoxM v.2 ∧ (Fr [(0, 0), (1, 9999)] o v.2)) := by
  have fr_o : Fr [(0, 0), (1, 9999)] o o := Fr.rf
  have g0_32_o := bM_0_32 hB_o
  unfold s_X12_mark
  refine T_qB (t_X12_isMark o x1 hB_o (by omega)) (fun r18 hc_r18 hp1 => ?_)
  replace hp1 : ((r18 = 1 ∧ 0 ≤ x1 ∧ x1 < o.1 0 32) ∨ (r18 = 0 ∧ (x1 < 0 ∨ o.1 0 32 ≤ x1))) := hp1
  refine T_qEq ⟨by omega, by omega⟩ ⟨by decide, by decide⟩ (fun h2 => ?_) (fun h2 => ?_)
  ·
    unfold b_X12_mark_18
    refine T_some ?_
    show BoxM o ∧ (Fr [(0, 0), (1, 9999)] o o)
    exact ⟨hB_o, fr_o⟩
  ·
    refine T_qB (t_X12_in x2 1 6 (by omega) (by omega) (by omega)) (fun r20 hc_r20 hp3 => ?_)
    replace hp3 : ((r20 = 1 ∧ 1 ≤ x2 ∧ x2 ≤ 6) ∨ (r20 = 0 ∧ (x2 < 1 ∨ 6 < x2))) := hp3
    refine T_qEq ⟨by omega, by omega⟩ ⟨by decide, by decide⟩ (fun h4 => ?_) (fun h4 => ?_)
    ·
      unfold b_X12_mark_18
      refine T_some ?_
      show BoxM o ∧ (Fr [(0, 0), (1, 9999)] o o)
      exact ⟨hB_o, fr_o⟩
    ·
      refine T_qIn ⟨by omega, by omega⟩ ?_
      refine T_qNm (fun n23 e_n23 => ?_)
      have b_n23 : 0 ≤ n23 ∧ n23 ≤ 6 := by rw [e_n23]; exact bM_25 hB_o _
      refine T_qEq ⟨by omega, by omega⟩ ⟨by omega, by omega⟩ (fun h5 => ?_) (fun h5 => ?_)
      ·
        unfold b_X12_mark_60
        unfold b_X12_mark_65
        refine T_qEq ⟨by decide, by decide⟩ ⟨by decide, by decide⟩ (fun h6 => ?_) (fun h6 => ?_)
        ·
          refine T_qB2 (t_X12_meets o 3 hB_o (by omega)) (fun r13 o15 hc_r13 hp7 => ?_)
          replace hp7 : BoxM o15 ∧ (Fr [(0, 0), (1, 9999)] o o15) ∧ (r13 = -3) := hp7
          obtain ⟨hB_o15, fc_o15, hp7⟩ := hp7
          have fr_o15 : Fr [(0, 0), (1, 9999)] o o15 := Fr.tr fr_o fc_o15 rfl
          have g0_32_o15 : o15.1 0 32 = o.1 0 32 := fc_o15.1 0 32 rfl
          refine T_some ?_
          show BoxM o15 ∧ (Fr [(0, 0), (1, 9999)] o o15)
          exact ⟨hB_o15, fr_o15⟩
        ·
          refine T_qEq ⟨by omega, by omega⟩ ⟨by decide, by decide⟩ (fun h8 => ?_) (fun h8 => ?_)
          ·
            refine T_qIn ⟨by omega, by omega⟩ ?_
            refine T_qNm (fun n2 e_n2 => ?_)
            have b_n2 : 0 ≤ n2 ∧ n2 ≤ 64 := by rw [e_n2]; exact bM_30 hB_o _
            refine T_some ?_
            show BoxM o ∧ (Fr [(0, 0), (1, 9999)] o o)
            exact ⟨hB_o, fr_o⟩
          ·
            refine T_qEq ⟨by omega, by omega⟩ ⟨by decide, by decide⟩ (fun h9 => ?_) (fun h9 => ?_)
            ·
              refine T_qIn ⟨by omega, by omega⟩ ?_
              refine T_qNm (fun n4 e_n4 => ?_)
              have b_n4 : 0 ≤ n4 ∧ n4 ≤ 63 := by rw [e_n4]; exact bM_31 hB_o _
              refine T_some ?_
              show BoxM o ∧ (Fr [(0, 0), (1, 9999)] o o)
              exact ⟨hB_o, fr_o⟩
            ·
              refine T_qEq ⟨by omega, by omega⟩ ⟨by decide, by decide⟩ (fun h10 => ?_) (fun h10 => ?_)
              ·
                refine T_qIn ⟨by omega, by omega⟩ ?_
                refine T_qNm (fun n6 e_n6 => ?_)
                have b_n6 : 0 ≤ n6 ∧ n6 ≤ 10000000 := by rw [e_n6]; exact bM_32 hB_o _
                refine T_some ?_
                show BoxM o ∧ (Fr [(0, 0), (1, 9999)] o o)
                exact ⟨hB_o, fr_o⟩
              ·
                refine T_qEq ⟨by omega, by omega⟩ ⟨by decide, by decide⟩ (fun h11 => ?_) (fun h11 => ?_)
                ·
                  refine T_qIn ⟨by omega, by omega⟩ ?_
                  refine T_qNm (fun n8 e_n8 => ?_)
                  have b_n8 : 0 ≤ n8 ∧ n8 ≤ 39 := by rw [e_n8]; exact bM_33 hB_o _
                  refine T_some ?_
                  show BoxM o ∧ (Fr [(0, 0), (1, 9999)] o o)
                  exact ⟨hB_o, fr_o⟩
                ·
                  refine T_qEq ⟨by omega, by omega⟩ ⟨by decide, by decide⟩ (fun h12 => ?_) (fun h12 => ?_)
                  ·
                    refine T_qIn ⟨by omega, by omega⟩ ?_
                    refine T_qNm (fun n10 e_n10 => ?_)
                    have b_n10 : 0 ≤ n10 ∧ n10 ≤ 63 := by rw [e_n10]; exact bM_35 hB_o _
                    refine T_some ?_
                    show BoxM o ∧ (Fr [(0, 0), (1, 9999)] o o)
                    exact ⟨hB_o, fr_o⟩
                  ·
                    refine T_qB (t_X12_couldCome o x1 hB_o (by omega)) (fun r11 hc_r11 hp13 => ?_)
                    replace hp13 : (0 ≤ r11 ∧ r11 ≤ 40) := hp13
                    refine T_some ?_
                    show BoxM o ∧ (Fr [(0, 0), (1, 9999)] o o)
                    exact ⟨hB_o, fr_o⟩
      ·
        refine T_qEq ⟨by omega, by omega⟩ ⟨by decide, by decide⟩ (fun h14 => ?_) (fun h14 => ?_)
        ·
          refine T_qIn ⟨by omega, by omega⟩ ?_
          refine T_qNm (fun n25 e_n25 => ?_)
          have b_n25 : 0 ≤ n25 ∧ n25 ≤ 6 := by rw [e_n25]; exact bM_25 hB_o _
          refine T_qEq ⟨by omega, by omega⟩ ⟨by decide, by decide⟩ (fun h15 => ?_) (fun h15 => ?_)
          ·
            unfold b_X12_mark_60
            unfold b_X12_mark_65
            refine T_qEq ⟨by decide, by decide⟩ ⟨by decide, by decide⟩ (fun h16 => ?_) (fun h16 => ?_)
            ·
              refine T_qB2 (t_X12_meets o 3 hB_o (by omega)) (fun r13 o15 hc_r13 hp17 => ?_)
              replace hp17 : BoxM o15 ∧ (Fr [(0, 0), (1, 9999)] o o15) ∧ (r13 = -3) := hp17
              obtain ⟨hB_o15, fc_o15, hp17⟩ := hp17
              have fr_o15 : Fr [(0, 0), (1, 9999)] o o15 := Fr.tr fr_o fc_o15 rfl
              have g0_32_o15 : o15.1 0 32 = o.1 0 32 := fc_o15.1 0 32 rfl
              refine T_some ?_
              show BoxM o15 ∧ (Fr [(0, 0), (1, 9999)] o o15)
              exact ⟨hB_o15, fr_o15⟩
            ·
              refine T_qEq ⟨by omega, by omega⟩ ⟨by decide, by decide⟩ (fun h18 => ?_) (fun h18 => ?_)
              ·
                refine T_qIn ⟨by omega, by omega⟩ ?_
                refine T_qNm (fun n2 e_n2 => ?_)
                have b_n2 : 0 ≤ n2 ∧ n2 ≤ 64 := by rw [e_n2]; exact bM_30 hB_o _
                refine T_some ?_
                show BoxM o ∧ (Fr [(0, 0), (1, 9999)] o o)
                exact ⟨hB_o, fr_o⟩
              ·
                refine T_qEq ⟨by omega, by omega⟩ ⟨by decide, by decide⟩ (fun h19 => ?_) (fun h19 => ?_)
                ·
                  refine T_qIn ⟨by omega, by omega⟩ ?_
                  refine T_qNm (fun n4 e_n4 => ?_)
                  have b_n4 : 0 ≤ n4 ∧ n4 ≤ 63 := by rw [e_n4]; exact bM_31 hB_o _
                  refine T_some ?_
                  show BoxM o ∧ (Fr [(0, 0), (1, 9999)] o o)
                  exact ⟨hB_o, fr_o⟩
                ·
                  refine T_qEq ⟨by omega, by omega⟩ ⟨by decide, by decide⟩ (fun h20 => ?_) (fun h20 => ?_)
                  ·
                    refine T_qIn ⟨by omega, by omega⟩ ?_
                    refine T_qNm (fun n6 e_n6 => ?_)
                    have b_n6 : 0 ≤ n6 ∧ n6 ≤ 10000000 := by rw [e_n6]; exact bM_32 hB_o _
                    refine T_some ?_
                    show BoxM o ∧ (Fr [(0, 0), (1, 9999)] o o)
                    exact ⟨hB_o, fr_o⟩
                  ·
                    refine T_qEq ⟨by omega, by omega⟩ ⟨by decide, by decide⟩ (fun h21 => ?_) (fun h21 => ?_)
                    ·
                      refine T_qIn ⟨by omega, by omega⟩ ?_
                      refine T_qNm (fun n8 e_n8 => ?_)
                      have b_n8 : 0 ≤ n8 ∧ n8 ≤ 39 := by rw [e_n8]; exact bM_33 hB_o _
                      refine T_some ?_
                      show BoxM o ∧ (Fr [(0, 0), (1, 9999)] o o)
                      exact ⟨hB_o, fr_o⟩
                    ·
                      refine T_qEq ⟨by omega, by omega⟩ ⟨by decide, by decide⟩ (fun h22 => ?_) (fun h22 => ?_)
                      ·
                        refine T_qIn ⟨by omega, by omega⟩ ?_
                        refine T_qNm (fun n10 e_n10 => ?_)
                        have b_n10 : 0 ≤ n10 ∧ n10 ≤ 63 := by rw [e_n10]; exact bM_35 hB_o _
                        refine T_some ?_
                        show BoxM o ∧ (Fr [(0, 0), (1, 9999)] o o)
                        exact ⟨hB_o, fr_o⟩
                      ·
                        refine T_qB (t_X12_couldCome o x1 hB_o (by omega)) (fun r11 hc_r11 hp23 => ?_)
                        replace hp23 : (0 ≤ r11 ∧ r11 ≤ 40) := hp23
                        refine T_some ?_
                        show BoxM o ∧ (Fr [(0, 0), (1, 9999)] o o)
                        exact ⟨hB_o, fr_o⟩
          ·
            unfold b_X12_mark_45
            refine T_qEq ⟨by omega, by omega⟩ ⟨by decide, by decide⟩ (fun h24 => ?_) (fun h24 => ?_)
            ·
              refine T_qIn ⟨by omega, by omega⟩ ?_
              refine T_qNm (fun n17 e_n17 => ?_)
              have b_n17 : 0 ≤ n17 ∧ n17 ≤ 6 := by rw [e_n17]; exact bM_25 hB_o _
              refine T_qEq ⟨by omega, by omega⟩ ⟨by decide, by decide⟩ (fun h25 => ?_) (fun h25 => ?_)
              ·
                unfold b_X12_mark_60
                unfold b_X12_mark_65
                refine T_qEq ⟨by decide, by decide⟩ ⟨by decide, by decide⟩ (fun h26 => ?_) (fun h26 => ?_)
                ·
                  refine T_qB2 (t_X12_meets o 3 hB_o (by omega)) (fun r13 o15 hc_r13 hp27 => ?_)
                  replace hp27 : BoxM o15 ∧ (Fr [(0, 0), (1, 9999)] o o15) ∧ (r13 = -3) := hp27
                  obtain ⟨hB_o15, fc_o15, hp27⟩ := hp27
                  have fr_o15 : Fr [(0, 0), (1, 9999)] o o15 := Fr.tr fr_o fc_o15 rfl
                  have g0_32_o15 : o15.1 0 32 = o.1 0 32 := fc_o15.1 0 32 rfl
                  refine T_some ?_
                  show BoxM o15 ∧ (Fr [(0, 0), (1, 9999)] o o15)
                  exact ⟨hB_o15, fr_o15⟩
                ·
                  refine T_qEq ⟨by omega, by omega⟩ ⟨by decide, by decide⟩ (fun h28 => ?_) (fun h28 => ?_)
                  ·
                    refine T_qIn ⟨by omega, by omega⟩ ?_
                    refine T_qNm (fun n2 e_n2 => ?_)
                    have b_n2 : 0 ≤ n2 ∧ n2 ≤ 64 := by rw [e_n2]; exact bM_30 hB_o _
                    refine T_some ?_
                    show BoxM o ∧ (Fr [(0, 0), (1, 9999)] o o)
                    exact ⟨hB_o, fr_o⟩
                  ·
                    refine T_qEq ⟨by omega, by omega⟩ ⟨by decide, by decide⟩ (fun h29 => ?_) (fun h29 => ?_)
                    ·
                      refine T_qIn ⟨by omega, by omega⟩ ?_
                      refine T_qNm (fun n4 e_n4 => ?_)
                      have b_n4 : 0 ≤ n4 ∧ n4 ≤ 63 := by rw [e_n4]; exact bM_31 hB_o _
                      refine T_some ?_
                      show BoxM o ∧ (Fr [(0, 0), (1, 9999)] o o)
                      exact ⟨hB_o, fr_o⟩
                    ·
                      refine T_qEq ⟨by omega, by omega⟩ ⟨by decide, by decide⟩ (fun h30 => ?_) (fun h30 => ?_)
                      ·
                        refine T_qIn ⟨by omega, by omega⟩ ?_
                        refine T_qNm (fun n6 e_n6 => ?_)
                        have b_n6 : 0 ≤ n6 ∧ n6 ≤ 10000000 := by rw [e_n6]; exact bM_32 hB_o _
                        refine T_some ?_
                        show BoxM o ∧ (Fr [(0, 0), (1, 9999)] o o)
                        exact ⟨hB_o, fr_o⟩
                      ·
                        refine T_qEq ⟨by omega, by omega⟩ ⟨by decide, by decide⟩ (fun h31 => ?_) (fun h31 => ?_)
                        ·
                          refine T_qIn ⟨by omega, by omega⟩ ?_
                          refine T_qNm (fun n8 e_n8 => ?_)
                          have b_n8 : 0 ≤ n8 ∧ n8 ≤ 39 := by rw [e_n8]; exact bM_33 hB_o _
                          refine T_some ?_
                          show BoxM o ∧ (Fr [(0, 0), (1, 9999)] o o)
                          exact ⟨hB_o, fr_o⟩
                        ·
                          refine T_qEq ⟨by omega, by omega⟩ ⟨by decide, by decide⟩ (fun h32 => ?_) (fun h32 => ?_)
                          ·
                            refine T_qIn ⟨by omega, by omega⟩ ?_
                            refine T_qNm (fun n10 e_n10 => ?_)
                            have b_n10 : 0 ≤ n10 ∧ n10 ≤ 63 := by rw [e_n10]; exact bM_35 hB_o _
                            refine T_some ?_
                            show BoxM o ∧ (Fr [(0, 0), (1, 9999)] o o)
                            exact ⟨hB_o, fr_o⟩
                          ·
                            refine T_qB (t_X12_couldCome o x1 hB_o (by omega)) (fun r11 hc_r11 hp33 => ?_)
                            replace hp33 : (0 ≤ r11 ∧ r11 ≤ 40) := hp33
                            refine T_some ?_
                            show BoxM o ∧ (Fr [(0, 0), (1, 9999)] o o)
                            exact ⟨hB_o, fr_o⟩
              ·
                unfold b_X12_mark_64
                unfold b_X12_mark_65
                refine T_qEq ⟨by decide, by decide⟩ ⟨by decide, by decide⟩ (fun h34 => ?_) (fun h34 => ?_)
                ·
                  refine T_qB2 (t_X12_meets o 3 hB_o (by omega)) (fun r13 o15 hc_r13 hp35 => ?_)
                  replace hp35 : BoxM o15 ∧ (Fr [(0, 0), (1, 9999)] o o15) ∧ (r13 = -3) := hp35
                  obtain ⟨hB_o15, fc_o15, hp35⟩ := hp35
                  have fr_o15 : Fr [(0, 0), (1, 9999)] o o15 := Fr.tr fr_o fc_o15 rfl
                  have g0_32_o15 : o15.1 0 32 = o.1 0 32 := fc_o15.1 0 32 rfl
                  refine T_some ?_
                  show BoxM o15 ∧ (Fr [(0, 0), (1, 9999)] o o15)
                  exact ⟨hB_o15, fr_o15⟩
                ·
                  refine T_qEq ⟨by omega, by omega⟩ ⟨by decide, by decide⟩ (fun h36 => ?_) (fun h36 => ?_)
                  ·
                    refine T_qIn ⟨by omega, by omega⟩ ?_
                    refine T_qNm (fun n2 e_n2 => ?_)
                    have b_n2 : 0 ≤ n2 ∧ n2 ≤ 64 := by rw [e_n2]; exact bM_30 hB_o _
                    refine T_some ?_
                    show BoxM o ∧ (Fr [(0, 0), (1, 9999)] o o)
                    exact ⟨hB_o, fr_o⟩
                  ·
                    refine T_qEq ⟨by omega, by omega⟩ ⟨by decide, by decide⟩ (fun h37 => ?_) (fun h37 => ?_)
                    ·
                      refine T_qIn ⟨by omega, by omega⟩ ?_
                      refine T_qNm (fun n4 e_n4 => ?_)
                      have b_n4 : 0 ≤ n4 ∧ n4 ≤ 63 := by rw [e_n4]; exact bM_31 hB_o _
                      refine T_some ?_
                      show BoxM o ∧ (Fr [(0, 0), (1, 9999)] o o)
                      exact ⟨hB_o, fr_o⟩
                    ·
                      refine T_qEq ⟨by omega, by omega⟩ ⟨by decide, by decide⟩ (fun h38 => ?_) (fun h38 => ?_)
                      ·
                        refine T_qIn ⟨by omega, by omega⟩ ?_
                        refine T_qNm (fun n6 e_n6 => ?_)
                        have b_n6 : 0 ≤ n6 ∧ n6 ≤ 10000000 := by rw [e_n6]; exact bM_32 hB_o _
                        refine T_some ?_
                        show BoxM o ∧ (Fr [(0, 0), (1, 9999)] o o)
                        exact ⟨hB_o, fr_o⟩
                      ·
                        refine T_qEq ⟨by omega, by omega⟩ ⟨by decide, by decide⟩ (fun h39 => ?_) (fun h39 => ?_)
                        ·
                          refine T_qIn ⟨by omega, by omega⟩ ?_
                          refine T_qNm (fun n8 e_n8 => ?_)
                          have b_n8 : 0 ≤ n8 ∧ n8 ≤ 39 := by rw [e_n8]; exact bM_33 hB_o _
                          refine T_some ?_
                          show BoxM o ∧ (Fr [(0, 0), (1, 9999)] o o)
                          exact ⟨hB_o, fr_o⟩
                        ·
                          refine T_qEq ⟨by omega, by omega⟩ ⟨by decide, by decide⟩ (fun h40 => ?_) (fun h40 => ?_)
                          ·
                            refine T_qIn ⟨by omega, by omega⟩ ?_
                            refine T_qNm (fun n10 e_n10 => ?_)
                            have b_n10 : 0 ≤ n10 ∧ n10 ≤ 63 := by rw [e_n10]; exact bM_35 hB_o _
                            refine T_some ?_
                            show BoxM o ∧ (Fr [(0, 0), (1, 9999)] o o)
                            exact ⟨hB_o, fr_o⟩
                          ·
                            refine T_qB (t_X12_couldCome o x1 hB_o (by omega)) (fun r11 hc_r11 hp41 => ?_)
                            replace hp41 : (0 ≤ r11 ∧ r11 ≤ 40) := hp41
                            refine T_some ?_
                            show BoxM o ∧ (Fr [(0, 0), (1, 9999)] o o)
                            exact ⟨hB_o, fr_o⟩
            ·
              unfold b_X12_mark_64
              unfold b_X12_mark_65
              refine T_qEq ⟨by decide, by decide⟩ ⟨by decide, by decide⟩ (fun h42 => ?_) (fun h42 => ?_)
              ·
                refine T_qB2 (t_X12_meets o 3 hB_o (by omega)) (fun r13 o15 hc_r13 hp43 => ?_)
                replace hp43 : BoxM o15 ∧ (Fr [(0, 0), (1, 9999)] o o15) ∧ (r13 = -3) := hp43
                obtain ⟨hB_o15, fc_o15, hp43⟩ := hp43
                have fr_o15 : Fr [(0, 0), (1, 9999)] o o15 := Fr.tr fr_o fc_o15 rfl
                have g0_32_o15 : o15.1 0 32 = o.1 0 32 := fc_o15.1 0 32 rfl
                refine T_some ?_
                show BoxM o15 ∧ (Fr [(0, 0), (1, 9999)] o o15)
                exact ⟨hB_o15, fr_o15⟩
              ·
                refine T_qEq ⟨by omega, by omega⟩ ⟨by decide, by decide⟩ (fun h44 => ?_) (fun h44 => ?_)
                ·
                  refine T_qIn ⟨by omega, by omega⟩ ?_
                  refine T_qNm (fun n2 e_n2 => ?_)
                  have b_n2 : 0 ≤ n2 ∧ n2 ≤ 64 := by rw [e_n2]; exact bM_30 hB_o _
                  refine T_some ?_
                  show BoxM o ∧ (Fr [(0, 0), (1, 9999)] o o)
                  exact ⟨hB_o, fr_o⟩
                ·
                  refine T_qEq ⟨by omega, by omega⟩ ⟨by decide, by decide⟩ (fun h45 => ?_) (fun h45 => ?_)
                  ·
                    refine T_qIn ⟨by omega, by omega⟩ ?_
                    refine T_qNm (fun n4 e_n4 => ?_)
                    have b_n4 : 0 ≤ n4 ∧ n4 ≤ 63 := by rw [e_n4]; exact bM_31 hB_o _
                    refine T_some ?_
                    show BoxM o ∧ (Fr [(0, 0), (1, 9999)] o o)
                    exact ⟨hB_o, fr_o⟩
                  ·
                    refine T_qEq ⟨by omega, by omega⟩ ⟨by decide, by decide⟩ (fun h46 => ?_) (fun h46 => ?_)
                    ·
                      refine T_qIn ⟨by omega, by omega⟩ ?_
                      refine T_qNm (fun n6 e_n6 => ?_)
                      have b_n6 : 0 ≤ n6 ∧ n6 ≤ 10000000 := by rw [e_n6]; exact bM_32 hB_o _
                      refine T_some ?_
                      show BoxM o ∧ (Fr [(0, 0), (1, 9999)] o o)
                      exact ⟨hB_o, fr_o⟩
                    ·
                      refine T_qEq ⟨by omega, by omega⟩ ⟨by decide, by decide⟩ (fun h47 => ?_) (fun h47 => ?_)
                      ·
                        refine T_qIn ⟨by omega, by omega⟩ ?_
                        refine T_qNm (fun n8 e_n8 => ?_)
                        have b_n8 : 0 ≤ n8 ∧ n8 ≤ 39 := by rw [e_n8]; exact bM_33 hB_o _
                        refine T_some ?_
                        show BoxM o ∧ (Fr [(0, 0), (1, 9999)] o o)
                        exact ⟨hB_o, fr_o⟩
                      ·
                        refine T_qEq ⟨by omega, by omega⟩ ⟨by decide, by decide⟩ (fun h48 => ?_) (fun h48 => ?_)
                        ·
                          refine T_qIn ⟨by omega, by omega⟩ ?_
                          refine T_qNm (fun n10 e_n10 => ?_)
                          have b_n10 : 0 ≤ n10 ∧ n10 ≤ 63 := by rw [e_n10]; exact bM_35 hB_o _
                          refine T_some ?_
                          show BoxM o ∧ (Fr [(0, 0), (1, 9999)] o o)
                          exact ⟨hB_o, fr_o⟩
                        ·
                          refine T_qB (t_X12_couldCome o x1 hB_o (by omega)) (fun r11 hc_r11 hp49 => ?_)
                          replace hp49 : (0 ≤ r11 ∧ r11 ≤ 40) := hp49
                          refine T_some ?_
                          show BoxM o ∧ (Fr [(0, 0), (1, 9999)] o o)
                          exact ⟨hB_o, fr_o⟩
        ·
          unfold b_X12_mark_45
          refine T_qEq ⟨by omega, by omega⟩ ⟨by decide, by decide⟩ (fun h50 => ?_) (fun h50 => ?_)
          ·
            refine T_qIn ⟨by omega, by omega⟩ ?_
            refine T_qNm (fun n17 e_n17 => ?_)
            have b_n17 : 0 ≤ n17 ∧ n17 ≤ 6 := by rw [e_n17]; exact bM_25 hB_o _
            refine T_qEq ⟨by omega, by omega⟩ ⟨by decide, by decide⟩ (fun h51 => ?_) (fun h51 => ?_)
            ·
              unfold b_X12_mark_60
              unfold b_X12_mark_65
              refine T_qEq ⟨by decide, by decide⟩ ⟨by decide, by decide⟩ (fun h52 => ?_) (fun h52 => ?_)
              ·
                refine T_qB2 (t_X12_meets o 3 hB_o (by omega)) (fun r13 o15 hc_r13 hp53 => ?_)
                replace hp53 : BoxM o15 ∧ (Fr [(0, 0), (1, 9999)] o o15) ∧ (r13 = -3) := hp53
                obtain ⟨hB_o15, fc_o15, hp53⟩ := hp53
                have fr_o15 : Fr [(0, 0), (1, 9999)] o o15 := Fr.tr fr_o fc_o15 rfl
                have g0_32_o15 : o15.1 0 32 = o.1 0 32 := fc_o15.1 0 32 rfl
                refine T_some ?_
                show BoxM o15 ∧ (Fr [(0, 0), (1, 9999)] o o15)
                exact ⟨hB_o15, fr_o15⟩
              ·
                refine T_qEq ⟨by omega, by omega⟩ ⟨by decide, by decide⟩ (fun h54 => ?_) (fun h54 => ?_)
                ·
                  refine T_qIn ⟨by omega, by omega⟩ ?_
                  refine T_qNm (fun n2 e_n2 => ?_)
                  have b_n2 : 0 ≤ n2 ∧ n2 ≤ 64 := by rw [e_n2]; exact bM_30 hB_o _
                  refine T_some ?_
                  show BoxM o ∧ (Fr [(0, 0), (1, 9999)] o o)
                  exact ⟨hB_o, fr_o⟩
                ·
                  refine T_qEq ⟨by omega, by omega⟩ ⟨by decide, by decide⟩ (fun h55 => ?_) (fun h55 => ?_)
                  ·
                    refine T_qIn ⟨by omega, by omega⟩ ?_
                    refine T_qNm (fun n4 e_n4 => ?_)
                    have b_n4 : 0 ≤ n4 ∧ n4 ≤ 63 := by rw [e_n4]; exact bM_31 hB_o _
                    refine T_some ?_
                    show BoxM o ∧ (Fr [(0, 0), (1, 9999)] o o)
                    exact ⟨hB_o, fr_o⟩
                  ·
                    refine T_qEq ⟨by omega, by omega⟩ ⟨by decide, by decide⟩ (fun h56 => ?_) (fun h56 => ?_)
                    ·
                      refine T_qIn ⟨by omega, by omega⟩ ?_
                      refine T_qNm (fun n6 e_n6 => ?_)
                      have b_n6 : 0 ≤ n6 ∧ n6 ≤ 10000000 := by rw [e_n6]; exact bM_32 hB_o _
                      refine T_some ?_
                      show BoxM o ∧ (Fr [(0, 0), (1, 9999)] o o)
                      exact ⟨hB_o, fr_o⟩
                    ·
                      refine T_qEq ⟨by omega, by omega⟩ ⟨by decide, by decide⟩ (fun h57 => ?_) (fun h57 => ?_)
                      ·
                        refine T_qIn ⟨by omega, by omega⟩ ?_
                        refine T_qNm (fun n8 e_n8 => ?_)
                        have b_n8 : 0 ≤ n8 ∧ n8 ≤ 39 := by rw [e_n8]; exact bM_33 hB_o _
                        refine T_some ?_
                        show BoxM o ∧ (Fr [(0, 0), (1, 9999)] o o)
                        exact ⟨hB_o, fr_o⟩
                      ·
                        refine T_qEq ⟨by omega, by omega⟩ ⟨by decide, by decide⟩ (fun h58 => ?_) (fun h58 => ?_)
                        ·
                          refine T_qIn ⟨by omega, by omega⟩ ?_
                          refine T_qNm (fun n10 e_n10 => ?_)
                          have b_n10 : 0 ≤ n10 ∧ n10 ≤ 63 := by rw [e_n10]; exact bM_35 hB_o _
                          refine T_some ?_
                          show BoxM o ∧ (Fr [(0, 0), (1, 9999)] o o)
                          exact ⟨hB_o, fr_o⟩
                        ·
                          refine T_qB (t_X12_couldCome o x1 hB_o (by omega)) (fun r11 hc_r11 hp59 => ?_)
                          replace hp59 : (0 ≤ r11 ∧ r11 ≤ 40) := hp59
                          refine T_some ?_
                          show BoxM o ∧ (Fr [(0, 0), (1, 9999)] o o)
                          exact ⟨hB_o, fr_o⟩
            ·
              unfold b_X12_mark_64
              unfold b_X12_mark_65
              refine T_qEq ⟨by decide, by decide⟩ ⟨by decide, by decide⟩ (fun h60 => ?_) (fun h60 => ?_)
              ·
                refine T_qB2 (t_X12_meets o 3 hB_o (by omega)) (fun r13 o15 hc_r13 hp61 => ?_)
                replace hp61 : BoxM o15 ∧ (Fr [(0, 0), (1, 9999)] o o15) ∧ (r13 = -3) := hp61
                obtain ⟨hB_o15, fc_o15, hp61⟩ := hp61
                have fr_o15 : Fr [(0, 0), (1, 9999)] o o15 := Fr.tr fr_o fc_o15 rfl
                have g0_32_o15 : o15.1 0 32 = o.1 0 32 := fc_o15.1 0 32 rfl
                refine T_some ?_
                show BoxM o15 ∧ (Fr [(0, 0), (1, 9999)] o o15)
                exact ⟨hB_o15, fr_o15⟩
              ·
                refine T_qEq ⟨by omega, by omega⟩ ⟨by decide, by decide⟩ (fun h62 => ?_) (fun h62 => ?_)
                ·
                  refine T_qIn ⟨by omega, by omega⟩ ?_
                  refine T_qNm (fun n2 e_n2 => ?_)
                  have b_n2 : 0 ≤ n2 ∧ n2 ≤ 64 := by rw [e_n2]; exact bM_30 hB_o _
                  refine T_some ?_
                  show BoxM o ∧ (Fr [(0, 0), (1, 9999)] o o)
                  exact ⟨hB_o, fr_o⟩
                ·
                  refine T_qEq ⟨by omega, by omega⟩ ⟨by decide, by decide⟩ (fun h63 => ?_) (fun h63 => ?_)
                  ·
                    refine T_qIn ⟨by omega, by omega⟩ ?_
                    refine T_qNm (fun n4 e_n4 => ?_)
                    have b_n4 : 0 ≤ n4 ∧ n4 ≤ 63 := by rw [e_n4]; exact bM_31 hB_o _
                    refine T_some ?_
                    show BoxM o ∧ (Fr [(0, 0), (1, 9999)] o o)
                    exact ⟨hB_o, fr_o⟩
                  ·
                    refine T_qEq ⟨by omega, by omega⟩ ⟨by decide, by decide⟩ (fun h64 => ?_) (fun h64 => ?_)
                    ·
                      refine T_qIn ⟨by omega, by omega⟩ ?_
                      refine T_qNm (fun n6 e_n6 => ?_)
                      have b_n6 : 0 ≤ n6 ∧ n6 ≤ 10000000 := by rw [e_n6]; exact bM_32 hB_o _
                      refine T_some ?_
                      show BoxM o ∧ (Fr [(0, 0), (1, 9999)] o o)
                      exact ⟨hB_o, fr_o⟩
                    ·
                      refine T_qEq ⟨by omega, by omega⟩ ⟨by decide, by decide⟩ (fun h65 => ?_) (fun h65 => ?_)
                      ·
                        refine T_qIn ⟨by omega, by omega⟩ ?_
                        refine T_qNm (fun n8 e_n8 => ?_)
                        have b_n8 : 0 ≤ n8 ∧ n8 ≤ 39 := by rw [e_n8]; exact bM_33 hB_o _
                        refine T_some ?_
                        show BoxM o ∧ (Fr [(0, 0), (1, 9999)] o o)
                        exact ⟨hB_o, fr_o⟩
                      ·
                        refine T_qEq ⟨by omega, by omega⟩ ⟨by decide, by decide⟩ (fun h66 => ?_) (fun h66 => ?_)
                        ·
                          refine T_qIn ⟨by omega, by omega⟩ ?_
                          refine T_qNm (fun n10 e_n10 => ?_)
                          have b_n10 : 0 ≤ n10 ∧ n10 ≤ 63 := by rw [e_n10]; exact bM_35 hB_o _
                          refine T_some ?_
                          show BoxM o ∧ (Fr [(0, 0), (1, 9999)] o o)
                          exact ⟨hB_o, fr_o⟩
                        ·
                          refine T_qB (t_X12_couldCome o x1 hB_o (by omega)) (fun r11 hc_r11 hp67 => ?_)
                          replace hp67 : (0 ≤ r11 ∧ r11 ≤ 40) := hp67
                          refine T_some ?_
                          show BoxM o ∧ (Fr [(0, 0), (1, 9999)] o o)
                          exact ⟨hB_o, fr_o⟩
          ·
            unfold b_X12_mark_64
            unfold b_X12_mark_65
            refine T_qEq ⟨by decide, by decide⟩ ⟨by decide, by decide⟩ (fun h68 => ?_) (fun h68 => ?_)
            ·
              refine T_qB2 (t_X12_meets o 3 hB_o (by omega)) (fun r13 o15 hc_r13 hp69 => ?_)
              replace hp69 : BoxM o15 ∧ (Fr [(0, 0), (1, 9999)] o o15) ∧ (r13 = -3) := hp69
              obtain ⟨hB_o15, fc_o15, hp69⟩ := hp69
              have fr_o15 : Fr [(0, 0), (1, 9999)] o o15 := Fr.tr fr_o fc_o15 rfl
              have g0_32_o15 : o15.1 0 32 = o.1 0 32 := fc_o15.1 0 32 rfl
              refine T_some ?_
              show BoxM o15 ∧ (Fr [(0, 0), (1, 9999)] o o15)
              exact ⟨hB_o15, fr_o15⟩
            ·
              refine T_qEq ⟨by omega, by omega⟩ ⟨by decide, by decide⟩ (fun h70 => ?_) (fun h70 => ?_)
              ·
                refine T_qIn ⟨by omega, by omega⟩ ?_
                refine T_qNm (fun n2 e_n2 => ?_)
                have b_n2 : 0 ≤ n2 ∧ n2 ≤ 64 := by rw [e_n2]; exact bM_30 hB_o _
                refine T_some ?_
                show BoxM o ∧ (Fr [(0, 0), (1, 9999)] o o)
                exact ⟨hB_o, fr_o⟩
              ·
                refine T_qEq ⟨by omega, by omega⟩ ⟨by decide, by decide⟩ (fun h71 => ?_) (fun h71 => ?_)
                ·
                  refine T_qIn ⟨by omega, by omega⟩ ?_
                  refine T_qNm (fun n4 e_n4 => ?_)
                  have b_n4 : 0 ≤ n4 ∧ n4 ≤ 63 := by rw [e_n4]; exact bM_31 hB_o _
                  refine T_some ?_
                  show BoxM o ∧ (Fr [(0, 0), (1, 9999)] o o)
                  exact ⟨hB_o, fr_o⟩
                ·
                  refine T_qEq ⟨by omega, by omega⟩ ⟨by decide, by decide⟩ (fun h72 => ?_) (fun h72 => ?_)
                  ·
                    refine T_qIn ⟨by omega, by omega⟩ ?_
                    refine T_qNm (fun n6 e_n6 => ?_)
                    have b_n6 : 0 ≤ n6 ∧ n6 ≤ 10000000 := by rw [e_n6]; exact bM_32 hB_o _
                    refine T_some ?_
                    show BoxM o ∧ (Fr [(0, 0), (1, 9999)] o o)
                    exact ⟨hB_o, fr_o⟩
                  ·
                    refine T_qEq ⟨by omega, by omega⟩ ⟨by decide, by decide⟩ (fun h73 => ?_) (fun h73 => ?_)
                    ·
                      refine T_qIn ⟨by omega, by omega⟩ ?_
                      refine T_qNm (fun n8 e_n8 => ?_)
                      have b_n8 : 0 ≤ n8 ∧ n8 ≤ 39 := by rw [e_n8]; exact bM_33 hB_o _
                      refine T_some ?_
                      show BoxM o ∧ (Fr [(0, 0), (1, 9999)] o o)
                      exact ⟨hB_o, fr_o⟩
                    ·
                      refine T_qEq ⟨by omega, by omega⟩ ⟨by decide, by decide⟩ (fun h74 => ?_) (fun h74 => ?_)
                      ·
                        refine T_qIn ⟨by omega, by omega⟩ ?_
                        refine T_qNm (fun n10 e_n10 => ?_)
                        have b_n10 : 0 ≤ n10 ∧ n10 ≤ 63 := by rw [e_n10]; exact bM_35 hB_o _
                        refine T_some ?_
                        show BoxM o ∧ (Fr [(0, 0), (1, 9999)] o o)
                        exact ⟨hB_o, fr_o⟩
                      ·
                        refine T_qB (t_X12_couldCome o x1 hB_o (by omega)) (fun r11 hc_r11 hp75 => ?_)
                        replace hp75 : (0 ≤ r11 ∧ r11 ≤ 40) := hp75
                        refine T_some ?_
                        show BoxM o ∧ (Fr [(0, 0), (1, 9999)] o o)
                        exact ⟨hB_o, fr_o⟩
