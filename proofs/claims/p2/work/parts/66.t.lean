set_option maxRecDepth 20000 in
set_option maxHeartbeats 4000000 in
theorem t_X12_costOf (o : OO) (x1 : Int) (x2 : Int) (hB_o : BoxM o) (k0 : 0 ≤ x1 ∧ x1 ≤ 63) (k1 : 0 ≤ x2 ∧ x2 ≤ 5) (k2 : ∀ k : Int, 0 ≤ k → k < 4 → 0 ≤ o.1 3 (40 * x2 + k).toNat ∧ o.1 3 (40 * x2 + k).toNat ≤ 1000) (k3 : ¬ o.1 11 x1.toNat = 4) : T (s_X12_costOf o x1 x2) (fun v => (0 ≤ v ∧ v ≤ 2000)) := by
  have g0_4_o := bM_0_4 hB_o
  have g0_17_o := bM_0_17 hB_o
  unfold s_X12_costOf
  refine T_qB (t_X12_on o x1 hB_o (by omega)) (fun r1 hc_r1 hp1 => ?_)
  replace hp1 : ((r1 = -9 ∨ 0 ≤ r1) ∧ r1 < o.1 0 17) := hp1
  refine T_qIn ⟨by omega, by omega⟩ ?_
  refine T_qNm (fun n4 e_n4 => ?_)
  have b_n4 : 0 ≤ n4 ∧ n4 ≤ 4 := by rw [e_n4]; exact bM_11 hB_o _
  refine T_qIn ⟨by omega, by omega⟩ ?_
  refine T_qNm (fun n6 e_n6 => ?_)
  have b_n6 : -2147483648 ≤ n6 ∧ n6 ≤ 2147483647 := by rw [e_n6]; exact bM_3 hB_o _
  have hq8 := k2 n4 (by omega) (by omega)
  refine T_qLt ⟨by omega, by omega⟩ ⟨by decide, by decide⟩ (fun h2 => ?_) (fun h2 => ?_)
  ·
    unfold b_X12_costOf_42
    refine T_some ?_
    show (0 ≤ (n6 + 0) ∧ (n6 + 0) ≤ 2000)
    exact (by omega)
  ·
    refine T_qB (t_X12_valueOf o r1 (o.1 0 4) hB_o (by omega) (by omega)) (fun r7 hc_r7 hp3 => ?_)
    replace hp3 : (-9 ≤ r7 ∧ r7 ≤ 100000) ∧ (r7 = -9 ∨ 0 ≤ r7) := hp3
    have hps_hp3 := hp3
    obtain ⟨hp3_0, hp3_1⟩ := hps_hp3
    replace hp3 := hid hp3
    refine T_qDv ⟨⟨by omega, by omega⟩, ⟨by decide, by decide⟩, by decide⟩ ?_
    have jd4 := jq_or (a := r7) (b := 100)
    unfold b_X12_costOf_42
    refine T_some ?_
    show (0 ≤ (n6 + (jq r7 100)) ∧ (n6 + (jq r7 100)) ≤ 2000)
    exact (by omega)
set_option maxRecDepth 20000 in
set_option maxHeartbeats 4000000 in
theorem t_X12_slope (o : OO) (x1 : Int) (x2 : Int) (hB_o : BoxM o) (k0 : 0 ≤ x1 ∧ x1 ≤ 63) (k1 : 0 ≤ x2 ∧ x2 ≤ 63) : T (s_X12_slope o x1 x2) (fun v => (0 ≤ v ∧ v ≤ 99) ∧ (v = SV o x1 x2)) := by
  unfold s_X12_slope
  refine T_qIn ⟨by omega, by omega⟩ ?_
  refine T_qNm (fun n2 e_n2 => ?_)
  have b_n2 : 0 ≤ n2 ∧ n2 ≤ 99 := by rw [e_n2]; exact bM_12 hB_o _
  refine T_qIn ⟨by omega, by omega⟩ ?_
  refine T_qNm (fun n4 e_n4 => ?_)
  have b_n4 : 0 ≤ n4 ∧ n4 ≤ 99 := by rw [e_n4]; exact bM_12 hB_o _
  refine T_qNm (fun n5 e_n5 => ?_)
  have sv5 := SV_eq e_n2 e_n4 e_n5
  refine T_qLt ⟨by omega, by omega⟩ ⟨by decide, by decide⟩ (fun h1 => ?_) (fun h1 => ?_)
  ·
    unfold b_X12_slope_24
    refine T_some ?_
    show (0 ≤ (-n5) ∧ (-n5) ≤ 99) ∧ ((-n5) = SV o x1 x2)
    exact ⟨(by omega), (by first | exact sv5.1 (by omega) | exact sv5.2 (by omega)| fail)⟩
  ·
    unfold b_X12_slope_24
    refine T_some ?_
    show (0 ≤ n5 ∧ n5 ≤ 99) ∧ (n5 = SV o x1 x2)
    exact ⟨(by omega), (by first | exact sv5.1 (by omega) | exact sv5.2 (by omega)| fail)⟩
set_option maxRecDepth 20000 in
set_option maxHeartbeats 4000000 in
theorem t_X12_leads (o : OO) (x1 : Int) (x2 : Int) (x3 : Int) (hB_o : BoxM o) (k0 : 0 ≤ x1 ∧ x1 ≤ 63) (k1 : -9 ≤ x2 ∧ x2 ≤ 63) (k2 : inR x3) : T (s_X12_leads o x1 x2 x3) (fun v => ((v = 1 ∧ 0 ≤ x2) ∨ v = 0)) := by
  unfold s_X12_leads
  refine T_qLt ⟨by omega, by omega⟩ ⟨by decide, by decide⟩ (fun h1 => ?_) (fun h1 => ?_)
  ·
    unfold b_X12_leads_38
    unfold b_X12_leads_39
    refine T_qZ (Or.inl rfl) ?_
    refine T_some ?_
    show ((0 = 1 ∧ 0 ≤ x2) ∨ 0 = 0)
    exact (by omega)
  ·
    refine T_qIn ⟨by omega, by omega⟩ ?_
    refine T_qNm (fun n2 e_n2 => ?_)
    have b_n2 : 0 ≤ n2 ∧ n2 ≤ 4 := by rw [e_n2]; exact bM_11 hB_o _
    refine T_qEq ⟨by omega, by omega⟩ ⟨by decide, by decide⟩ (fun h2 => ?_) (fun h2 => ?_)
    ·
      unfold b_X12_leads_38
      unfold b_X12_leads_39
      refine T_qZ (Or.inl rfl) ?_
      refine T_some ?_
      show ((0 = 1 ∧ 0 ≤ x2) ∨ 0 = 0)
      exact (by omega)
    ·
      refine T_qIn ⟨by omega, by omega⟩ ?_
      refine T_qNm (fun n4 e_n4 => ?_)
      have b_n4 : 0 ≤ n4 ∧ n4 ≤ 4 := by rw [e_n4]; exact bM_11 hB_o _
      refine T_qEq ⟨by omega, by omega⟩ ⟨by decide, by decide⟩ (fun h3 => ?_) (fun h3 => ?_)
      ·
        unfold b_X12_leads_38
        unfold b_X12_leads_39
        refine T_qZ (Or.inl rfl) ?_
        refine T_some ?_
        show ((0 = 1 ∧ 0 ≤ x2) ∨ 0 = 0)
        exact (by omega)
      ·
        refine T_qB (t_X12_slope o x1 x2 hB_o (by omega) (by omega)) (fun r5 hc_r5 hp4 => ?_)
        replace hp4 : (0 ≤ r5 ∧ r5 ≤ 99) ∧ (r5 = SV o x1 x2) := hp4
        have hps_hp4 := hp4
        obtain ⟨hp4_0, hp4_1⟩ := hps_hp4
        replace hp4 := hid hp4
        refine T_qLt ⟨by omega, by omega⟩ ⟨by omega, by omega⟩ (fun h5 => ?_) (fun h5 => ?_)
        ·
          unfold b_X12_leads_38
          unfold b_X12_leads_39
          refine T_qZ (Or.inl rfl) ?_
          refine T_some ?_
          show ((0 = 1 ∧ 0 ≤ x2) ∨ 0 = 0)
          exact (by omega)
        ·
          unfold b_X12_leads_39
          refine T_qZ (Or.inr rfl) ?_
          refine T_some ?_
          show ((1 = 1 ∧ 0 ≤ x2) ∨ 1 = 0)
          exact (by omega)
set_option maxRecDepth 20000 in
set_option maxHeartbeats 4000000 in
theorem t_X12_goOn (o : OO) (x1 : Int) (x2 : Int) (x3 : Int) (x4 : Int) (hB_o : BoxM o) (k0 : 0 ≤ x1 ∧ x1 ≤ 63) (k1 : 0 ≤ x2 ∧ x2 ≤ 4) (k2 : 0 ≤ x3 ∧ x3 ≤ 3) (k3 : 0 ≤ x4 ∧ x4 ≤ 63) : T (s_X12_goOn o x1 x2 x3 x4) (fun v => (0 ≤ v ∧ v ≤ 100100000) ∧ (v = GV o x1 x2 x3 x4)) := by
  have tn4 : x2 < 4 → x2 = x3 → TN x2 x3 = 0 := fun a b => by unfold TN; rw [if_pos a, if_pos b]
  have tn5 : x2 < 4 → ¬ x2 = x3 → TN x2 x3 = 5 := fun a b => by unfold TN; rw [if_pos a, if_neg b]
  have tn0 : ¬ x2 < 4 → TN x2 x3 = 0 := fun a => by unfold TN; rw [if_neg a]
  have gv9 : GV o x1 x2 x3 x4 = 10 * SV o x1 x4 + o.1 39 x4.toNat + TN x2 x3 + o.1 38 (5 * x4 + x3).toNat := rfl
  unfold s_X12_goOn
  refine T_qB (t_X12_slope o x1 x4 hB_o (by omega) (by omega)) (fun r3 hc_r3 hp1 => ?_)
  replace hp1 : (0 ≤ r3 ∧ r3 ≤ 99) ∧ (r3 = SV o x1 x4) := hp1
  have hps_hp1 := hp1
  obtain ⟨hp1_0, hp1_1⟩ := hps_hp1
  replace hp1 := hid hp1
  refine T_qIn ⟨by omega, by omega⟩ ?_
  refine T_qNm (fun n6 e_n6 => ?_)
  have b_n6 : 0 ≤ n6 ∧ n6 ≤ 2000 := by rw [e_n6]; exact bM_39 hB_o _
  refine T_qLt ⟨by omega, by omega⟩ ⟨by decide, by decide⟩ (fun h2 => ?_) (fun h2 => ?_)
  ·
    refine T_qEq ⟨by omega, by omega⟩ ⟨by omega, by omega⟩ (fun h3 => ?_) (fun h3 => ?_)
    ·
      unfold b_X12_goOn_32
      unfold b_X12_goOn_33
      refine T_qIn ⟨by omega, by omega⟩ ?_
      refine T_qNm (fun n2 e_n2 => ?_)
      have b_n2 : 0 ≤ n2 ∧ n2 ≤ 100000000 := by rw [e_n2]; exact bM_38 hB_o _
      refine T_some ?_
      show (0 ≤ ((((10 * r3) + n6) + 0) + n2) ∧ ((((10 * r3) + n6) + 0) + n2) ≤ 100100000) ∧ (((((10 * r3) + n6) + 0) + n2) = GV o x1 x2 x3 x4)
      exact ⟨(by omega), (by omega)⟩
    ·
      unfold b_X12_goOn_33
      refine T_qIn ⟨by omega, by omega⟩ ?_
      refine T_qNm (fun n2 e_n2 => ?_)
      have b_n2 : 0 ≤ n2 ∧ n2 ≤ 100000000 := by rw [e_n2]; exact bM_38 hB_o _
      refine T_some ?_
      show (0 ≤ ((((10 * r3) + n6) + 5) + n2) ∧ ((((10 * r3) + n6) + 5) + n2) ≤ 100100000) ∧ (((((10 * r3) + n6) + 5) + n2) = GV o x1 x2 x3 x4)
      exact ⟨(by omega), (by omega)⟩
  ·
    unfold b_X12_goOn_32
    unfold b_X12_goOn_33
    refine T_qIn ⟨by omega, by omega⟩ ?_
    refine T_qNm (fun n2 e_n2 => ?_)
    have b_n2 : 0 ≤ n2 ∧ n2 ≤ 100000000 := by rw [e_n2]; exact bM_38 hB_o _
    refine T_some ?_
    show (0 ≤ ((((10 * r3) + n6) + 0) + n2) ∧ ((((10 * r3) + n6) + 0) + n2) ≤ 100100000) ∧ (((((10 * r3) + n6) + 0) + n2) = GV o x1 x2 x3 x4)
    exact ⟨(by omega), (by omega)⟩
set_option maxRecDepth 20000 in
set_option maxHeartbeats 4000000 in
theorem tl_X12_setLeft_2 (x1 : Int) (x2 : Int) (i_o : OO) (i_x3 : Int) (hB_i_o : BoxM i_o) (k0 : 0 ≤ x1 ∧ x1 ≤ 63) (v0 : 0 ≤ i_x3 ∧ i_x3 ≤ 320) (v1 : INI i_o x1 i_x3) : T (loopW (fun s => l_X12_setLeft_2 x1 x2 s.1 s.2) (i_o, i_x3)) (fun r => BoxM r ∧ (Fr [(38, 9999)] i_o r) ∧ (INI r x1 320)) := by
  have fr_i_o : Fr [(38, 9999)] i_o i_o := Fr.rf
  refine T_loop (fun s => BoxM s.1 ∧ (Fr [(38, 9999)] i_o s.1) ∧ (0 ≤ s.2 ∧ s.2 ≤ 320) ∧ (INI s.1 x1 s.2)) (fun s => (320 - s.2).toNat) ⟨hB_i_o, fr_i_o, v0, v1⟩ (fun s hs => ?_)
  obtain ⟨o, x3⟩ := s
  replace hs : BoxM o ∧ (Fr [(38, 9999)] i_o o) ∧ (0 ≤ x3 ∧ x3 ≤ 320) ∧ (INI o x1 x3) := hs
  obtain ⟨hB_o, fr_o, w0, w1⟩ := hs
  show T (l_X12_setLeft_2 x1 x2 o x3) _
  unfold l_X12_setLeft_2
  refine T_qLt ⟨by omega, by omega⟩ ⟨by decide, by decide⟩ (fun h1 => ?_) (fun h1 => ?_)
  ·
    refine T_qDv ⟨⟨by omega, by omega⟩, ⟨by decide, by decide⟩, by decide⟩ ?_
    have jd2 : jq x3 5 = x3 / 5 := jq_nn (by omega)
    refine T_qEq ⟨by omega, by omega⟩ ⟨by omega, by omega⟩ (fun h3 => ?_) (fun h3 => ?_)
    ·
      unfold b_X12_setLeft_28
      refine T_qIn ⟨by omega, by omega⟩ ?_
      refine T_qNm (fun o18 e_o18 => ?_)
      have hB_o18 : BoxM o18 := by rw [e_o18]; exact Box.s1 hB_o (show 0 ≤ 0 ∧ 0 ≤ 100000000 from ⟨by omega, by omega⟩)
      have fr_o18 : Fr [(38, 9999)] i_o o18 := by rw [e_o18]; exact Fr.s1 fr_o rfl
      have sl_o18 : SL o18 = SL o - o.1 38 x3.toNat + 0 := by rw [e_o18]; exact SL_upd (by omega)
      have ini9 : INI o18 x1 (x3 + 1) := by rw [e_o18]; exact INI_s w1 (by omega) (by omega)
      refine T_some ?_
      show (BoxM o18 ∧ (Fr [(38, 9999)] i_o o18) ∧ (0 ≤ (x3 + 1) ∧ (x3 + 1) ≤ 320) ∧ (INI o18 x1 (x3 + 1))) ∧ (320 - (x3 + 1)).toNat < (320 - x3).toNat
      exact ⟨⟨hB_o18, fr_o18, (by omega), (by first | assumption | exact INI_0 | (have q9 := w1; rwa [show x3 = 320 by omega] at q9)| fail)⟩, by omega⟩
    ·
      unfold b_X12_setLeft_28
      refine T_qIn ⟨by omega, by omega⟩ ?_
      refine T_qNm (fun o18 e_o18 => ?_)
      have hB_o18 : BoxM o18 := by rw [e_o18]; exact Box.s1 hB_o (show 0 ≤ 100000000 ∧ 100000000 ≤ 100000000 from ⟨by omega, by omega⟩)
      have fr_o18 : Fr [(38, 9999)] i_o o18 := by rw [e_o18]; exact Fr.s1 fr_o rfl
      have sl_o18 : SL o18 = SL o - o.1 38 x3.toNat + 100000000 := by rw [e_o18]; exact SL_upd (by omega)
      have ini9 : INI o18 x1 (x3 + 1) := by rw [e_o18]; exact INI_s w1 (by omega) (by omega)
      refine T_some ?_
      show (BoxM o18 ∧ (Fr [(38, 9999)] i_o o18) ∧ (0 ≤ (x3 + 1) ∧ (x3 + 1) ≤ 320) ∧ (INI o18 x1 (x3 + 1))) ∧ (320 - (x3 + 1)).toNat < (320 - x3).toNat
      exact ⟨⟨hB_o18, fr_o18, (by omega), (by first | assumption | exact INI_0 | (have q9 := w1; rwa [show x3 = 320 by omega] at q9)| fail)⟩, by omega⟩
  ·
    refine T_some ?_
    show BoxM o ∧ (Fr [(38, 9999)] i_o o) ∧ (INI o x1 320)
    exact ⟨hB_o, fr_o, (by first | assumption | exact INI_0 | (have q9 := w1; rwa [show x3 = 320 by omega] at q9)| fail)⟩
set_option maxRecDepth 20000 in
set_option maxHeartbeats 4000000 in
theorem tl_X12_setLeft_110 (x1 : Int) (x2 : Int) (x4 : Int) (x5 : Int) (x6 : Int) (i_o : OO) (i_x3 : Int) (i_x7 : Int) (hB_i_o : BoxM i_o) (k0 : 0 ≤ x1 ∧ x1 ≤ 63) (k1 : 0 ≤ x2 ∧ x2 ≤ 9999) (k2 : 0 ≤ x4 ∧ x4 ≤ 63) (k3 : 0 ≤ x5 ∧ x5 ≤ 3) (k4 : 0 ≤ x6 ∧ x6 ≤ 63) (k5 : ¬ x4 = x1) (k6 : x6 = bsd x4 x5) (k7 : LD i_o x4 x6 x2) (k8 : FN i_o (5 * x6 + x5)) (v0 : 0 ≤ i_x3 ∧ i_x3 ≤ 1) (v1 : 0 ≤ i_x7 ∧ i_x7 ≤ 5) (v2 : (i_x3 = i_x3 ∧ SL i_o = SL i_o) ∨ (i_x3 = 1 ∧ SL i_o < SL i_o)) (v3 : SBI i_o x1 x2) (v4 : ∀ k, i_o.1 38 k ≤ i_o.1 38 k) (v5 : (0 : Int) = i_x3 → (0 : Int) = i_x3 ∧ (∀ j, i_o.1 38 j = i_o.1 38 j)) (v6 : (0 : Int) = i_x3 → CKW i_o x4 x5 x6 i_x7) : T (loopW (fun s => l_X12_setLeft_110 x1 x2 x4 x5 x6 s.1 s.2.1 s.2.2) (i_o, i_x3, i_x7)) (fun r => BoxM r.1 ∧ (Fr [(38, 9999)] i_o r.1) ∧ (0 ≤ r.2 ∧ r.2 ≤ 1) ∧ ((r.2 = i_x3 ∧ SL r.1 = SL i_o) ∨ (r.2 = 1 ∧ SL r.1 < SL i_o)) ∧ (SBI r.1 x1 x2) ∧ ((0 : Int) = r.2 → (0 : Int) = i_x3 ∧ (∀ j, r.1.1 38 j = i_o.1 38 j)) ∧ ((0 : Int) = r.2 → CKW r.1 x4 x5 x6 5)) := by
  have fr_i_o : Fr [(38, 9999)] i_o i_o := Fr.rf
  refine T_loop (fun s => BoxM s.1 ∧ (Fr [(38, 9999)] i_o s.1) ∧ (0 ≤ s.2.1 ∧ s.2.1 ≤ 1) ∧ (0 ≤ s.2.2 ∧ s.2.2 ≤ 5) ∧ ((s.2.1 = i_x3 ∧ SL s.1 = SL i_o) ∨ (s.2.1 = 1 ∧ SL s.1 < SL i_o)) ∧ (SBI s.1 x1 x2) ∧ (∀ k, s.1.1 38 k ≤ i_o.1 38 k) ∧ ((0 : Int) = s.2.1 → (0 : Int) = i_x3 ∧ (∀ j, s.1.1 38 j = i_o.1 38 j)) ∧ ((0 : Int) = s.2.1 → CKW s.1 x4 x5 x6 s.2.2)) (fun s => (5 - s.2.2).toNat) ⟨hB_i_o, fr_i_o, v0, v1, v2, v3, v4, v5, v6⟩ (fun s hs => ?_)
  obtain ⟨o, x3, x7⟩ := s
  replace hs : BoxM o ∧ (Fr [(38, 9999)] i_o o) ∧ (0 ≤ x3 ∧ x3 ≤ 1) ∧ (0 ≤ x7 ∧ x7 ≤ 5) ∧ ((x3 = i_x3 ∧ SL o = SL i_o) ∨ (x3 = 1 ∧ SL o < SL i_o)) ∧ (SBI o x1 x2) ∧ (∀ k, o.1 38 k ≤ i_o.1 38 k) ∧ ((0 : Int) = x3 → (0 : Int) = i_x3 ∧ (∀ j, o.1 38 j = i_o.1 38 j)) ∧ ((0 : Int) = x3 → CKW o x4 x5 x6 x7) := hs
  obtain ⟨hB_o, fr_o, w0, w1, w2, w3, w4, w5, w6⟩ := hs
  have u9 : U38 i_o o := U38.of fr_o (fun _ => rfl) (fun _ => rfl) (fun _ => rfl) w4
  have ld9 : LD o x4 x6 x2 := LD.cg u9 (by assumption)
  have fn9 : FN o (5 * x6 + x5) := FN.mono u9 (by assumption)
  show T (l_X12_setLeft_110 x1 x2 x4 x5 x6 o x3 x7) _
  unfold l_X12_setLeft_110
  refine T_qLt ⟨by omega, by omega⟩ ⟨by decide, by decide⟩ (fun h4 => ?_) (fun h4 => ?_)
  ·
    refine T_qB (t_X12_goOn o x4 x7 x5 x6 hB_o (by omega) (by omega) (by omega) (by omega)) (fun r7 hc_r7 hp5 => ?_)
    replace hp5 : (0 ≤ r7 ∧ r7 ≤ 100100000) ∧ (r7 = GV o x4 x7 x5 x6) := hp5
    have hps_hp5 := hp5
    obtain ⟨hp5_0, hp5_1⟩ := hps_hp5
    replace hp5 := hid hp5
    refine T_qEq ⟨by omega, by omega⟩ ⟨by decide, by decide⟩ (fun h6 => ?_) (fun h6 => ?_)
    ·
      refine T_qIn ⟨by omega, by omega⟩ ?_
      refine T_qNm (fun n10 e_n10 => ?_)
      have b_n10 : 0 ≤ n10 ∧ n10 ≤ 100000000 := by rw [e_n10]; exact bM_38 hB_o _
      refine T_qLt ⟨by omega, by omega⟩ ⟨by omega, by omega⟩ (fun h7 => ?_) (fun h7 => ?_)
      ·
        unfold b_X12_setLeft_151
        unfold b_X12_setLeft_156
        refine T_qIn ⟨by omega, by omega⟩ ?_
        refine T_qNm (fun n4 e_n4 => ?_)
        have b_n4 : 0 ≤ n4 ∧ n4 ≤ 100000000 := by rw [e_n4]; exact bM_38 hB_o _
        refine T_qLt ⟨by omega, by omega⟩ ⟨by omega, by omega⟩ (fun h8 => ?_) (fun h8 => ?_)
        ·
          unfold b_X12_setLeft_202
          refine T_qIn ⟨by omega, by omega⟩ ?_
          refine T_qNm (fun o2 e_o2 => ?_)
          have hB_o2 : BoxM o2 := by rw [e_o2]; exact Box.s1 hB_o (show 0 ≤ r7 ∧ r7 ≤ 100000000 from ⟨by omega, by omega⟩)
          have fr_o2 : Fr [(38, 9999)] i_o o2 := by rw [e_o2]; exact Fr.s1 fr_o rfl
          have sl_o2 : SL o2 = SL o - o.1 38 ((5 * x4) + x7).toNat + r7 := by rw [e_o2]; exact SL_upd (by omega)
          have sb2 : SBI o2 x1 x2 := by rw [e_o2]; exact SBI_step hB_o w3 (by omega) (by omega) (by omega) (by omega) (by omega) (show x6 = bsd x4 x5 by assumption) (by omega) ld9 fn9 (by omega)
          have de2 : ∀ k, o2.1 38 k ≤ o.1 38 k := by rw [e_o2]; exact (U38_st (by omega)).2.2.2
          have sa2 : r7 = o.1 38 (5 * x4 + x7).toNat → ∀ k, o2.1 38 k = o.1 38 k := fun e => by rw [e_o2]; exact st38_same e
          have u2 : U38 o o2 := by rw [e_o2]; exact U38_st (by omega)
          refine T_some ?_
          show (BoxM o2 ∧ (Fr [(38, 9999)] i_o o2) ∧ (0 ≤ 1 ∧ 1 ≤ 1) ∧ (0 ≤ (x7 + 1) ∧ (x7 + 1) ≤ 5) ∧ ((1 = i_x3 ∧ SL o2 = SL i_o) ∨ (1 = 1 ∧ SL o2 < SL i_o)) ∧ (SBI o2 x1 x2) ∧ (∀ k, o2.1 38 k ≤ i_o.1 38 k) ∧ ((0 : Int) = 1 → (0 : Int) = i_x3 ∧ (∀ j, o2.1 38 j = i_o.1 38 j)) ∧ ((0 : Int) = 1 → CKW o2 x4 x5 x6 (x7 + 1))) ∧ (5 - (x7 + 1)).toNat < (5 - x7).toNat
          exact ⟨⟨hB_o2, fr_o2, (by omega), (by omega), (by omega), (by first | assumption | exact SBI_0 (by omega) (by assumption)| fail), (by first | assumption | exact (fun _ => Int.le_refl _) | exact (fun k => Int.le_trans (de2 k) (w4 k))| fail), (by first | assumption | exact (fun e => absurd e (by decide)) | exact (fun e => ⟨e, fun _ => rfl⟩) | exact (fun e => ⟨(w5 (by omega)).1, fun j => (sa2 (by omega) j).trans ((w5 (by omega)).2 j)⟩) | exact (fun e => ⟨(w4 (sam9 e).1).1, fun j => ((sam9 e).2 j).trans ((w4 (sam9 e).1).2 j)⟩)| fail), (by first | assumption | exact (fun e => absurd e (by decide)) | exact (fun _ => CKW_0) | exact (fun e => CKW_s u2 (sa2 (by omega)) (w6 (by omega)) (by omega)) | (intro e; have q9 := w6 e; rwa [show x7 = 5 by omega] at q9)| fail)⟩, by omega⟩
        ·
          refine T_qIn ⟨by omega, by omega⟩ ?_
          refine T_qNm (fun n6 e_n6 => ?_)
          have b_n6 : 0 ≤ n6 ∧ n6 ≤ 100000000 := by rw [e_n6]; exact bM_38 hB_o _
          unfold b_X12_setLeft_202
          refine T_qIn ⟨by omega, by omega⟩ ?_
          refine T_qNm (fun o2 e_o2 => ?_)
          have hB_o2 : BoxM o2 := by rw [e_o2]; exact Box.s1 hB_o (show 0 ≤ n6 ∧ n6 ≤ 100000000 from ⟨by omega, by omega⟩)
          have fr_o2 : Fr [(38, 9999)] i_o o2 := by rw [e_o2]; exact Fr.s1 fr_o rfl
          have sl_o2 : SL o2 = SL o - o.1 38 ((5 * x4) + x7).toNat + n6 := by rw [e_o2]; exact SL_upd (by omega)
          have sb2 : SBI o2 x1 x2 := by rw [e_o2]; exact SBI_step hB_o w3 (by omega) (by omega) (by omega) (by omega) (by omega) (show x6 = bsd x4 x5 by assumption) (by omega) ld9 fn9 (by omega)
          have de2 : ∀ k, o2.1 38 k ≤ o.1 38 k := by rw [e_o2]; exact (U38_st (by omega)).2.2.2
          have sa2 : n6 = o.1 38 (5 * x4 + x7).toNat → ∀ k, o2.1 38 k = o.1 38 k := fun e => by rw [e_o2]; exact st38_same e
          have u2 : U38 o o2 := by rw [e_o2]; exact U38_st (by omega)
          refine T_some ?_
          show (BoxM o2 ∧ (Fr [(38, 9999)] i_o o2) ∧ (0 ≤ 1 ∧ 1 ≤ 1) ∧ (0 ≤ (x7 + 1) ∧ (x7 + 1) ≤ 5) ∧ ((1 = i_x3 ∧ SL o2 = SL i_o) ∨ (1 = 1 ∧ SL o2 < SL i_o)) ∧ (SBI o2 x1 x2) ∧ (∀ k, o2.1 38 k ≤ i_o.1 38 k) ∧ ((0 : Int) = 1 → (0 : Int) = i_x3 ∧ (∀ j, o2.1 38 j = i_o.1 38 j)) ∧ ((0 : Int) = 1 → CKW o2 x4 x5 x6 (x7 + 1))) ∧ (5 - (x7 + 1)).toNat < (5 - x7).toNat
          exact ⟨⟨hB_o2, fr_o2, (by omega), (by omega), (by omega), (by first | assumption | exact SBI_0 (by omega) (by assumption)| fail), (by first | assumption | exact (fun _ => Int.le_refl _) | exact (fun k => Int.le_trans (de2 k) (w4 k))| fail), (by first | assumption | exact (fun e => absurd e (by decide)) | exact (fun e => ⟨e, fun _ => rfl⟩) | exact (fun e => ⟨(w5 (by omega)).1, fun j => (sa2 (by omega) j).trans ((w5 (by omega)).2 j)⟩) | exact (fun e => ⟨(w4 (sam9 e).1).1, fun j => ((sam9 e).2 j).trans ((w4 (sam9 e).1).2 j)⟩)| fail), (by first | assumption | exact (fun e => absurd e (by decide)) | exact (fun _ => CKW_0) | exact (fun e => CKW_s u2 (sa2 (by omega)) (w6 (by omega)) (by omega)) | (intro e; have q9 := w6 e; rwa [show x7 = 5 by omega] at q9)| fail)⟩, by omega⟩
      ·
        unfold b_X12_setLeft_156
        refine T_qIn ⟨by omega, by omega⟩ ?_
        refine T_qNm (fun n4 e_n4 => ?_)
        have b_n4 : 0 ≤ n4 ∧ n4 ≤ 100000000 := by rw [e_n4]; exact bM_38 hB_o _
        refine T_qLt ⟨by omega, by omega⟩ ⟨by omega, by omega⟩ (fun h9 => ?_) (fun h9 => ?_)
        ·
          unfold b_X12_setLeft_202
          refine T_qIn ⟨by omega, by omega⟩ ?_
          refine T_qNm (fun o2 e_o2 => ?_)
          have hB_o2 : BoxM o2 := by rw [e_o2]; exact Box.s1 hB_o (show 0 ≤ r7 ∧ r7 ≤ 100000000 from ⟨by omega, by omega⟩)
          have fr_o2 : Fr [(38, 9999)] i_o o2 := by rw [e_o2]; exact Fr.s1 fr_o rfl
          have sl_o2 : SL o2 = SL o - o.1 38 ((5 * x4) + x7).toNat + r7 := by rw [e_o2]; exact SL_upd (by omega)
          have sb2 : SBI o2 x1 x2 := by rw [e_o2]; exact SBI_step hB_o w3 (by omega) (by omega) (by omega) (by omega) (by omega) (show x6 = bsd x4 x5 by assumption) (by omega) ld9 fn9 (by omega)
          have de2 : ∀ k, o2.1 38 k ≤ o.1 38 k := by rw [e_o2]; exact (U38_st (by omega)).2.2.2
          have sa2 : r7 = o.1 38 (5 * x4 + x7).toNat → ∀ k, o2.1 38 k = o.1 38 k := fun e => by rw [e_o2]; exact st38_same e
          have u2 : U38 o o2 := by rw [e_o2]; exact U38_st (by omega)
          refine T_some ?_
          show (BoxM o2 ∧ (Fr [(38, 9999)] i_o o2) ∧ (0 ≤ 0 ∧ 0 ≤ 1) ∧ (0 ≤ (x7 + 1) ∧ (x7 + 1) ≤ 5) ∧ ((0 = i_x3 ∧ SL o2 = SL i_o) ∨ (0 = 1 ∧ SL o2 < SL i_o)) ∧ (SBI o2 x1 x2) ∧ (∀ k, o2.1 38 k ≤ i_o.1 38 k) ∧ ((0 : Int) = 0 → (0 : Int) = i_x3 ∧ (∀ j, o2.1 38 j = i_o.1 38 j)) ∧ ((0 : Int) = 0 → CKW o2 x4 x5 x6 (x7 + 1))) ∧ (5 - (x7 + 1)).toNat < (5 - x7).toNat
          exact ⟨⟨hB_o2, fr_o2, (by omega), (by omega), (by omega), (by first | assumption | exact SBI_0 (by omega) (by assumption)| fail), (by first | assumption | exact (fun _ => Int.le_refl _) | exact (fun k => Int.le_trans (de2 k) (w4 k))| fail), (by first | assumption | exact (fun e => absurd e (by decide)) | exact (fun e => ⟨e, fun _ => rfl⟩) | exact (fun e => ⟨(w5 (by omega)).1, fun j => (sa2 (by omega) j).trans ((w5 (by omega)).2 j)⟩) | exact (fun e => ⟨(w4 (sam9 e).1).1, fun j => ((sam9 e).2 j).trans ((w4 (sam9 e).1).2 j)⟩)| fail), (by first | assumption | exact (fun e => absurd e (by decide)) | exact (fun _ => CKW_0) | exact (fun e => CKW_s u2 (sa2 (by omega)) (w6 (by omega)) (by omega)) | (intro e; have q9 := w6 e; rwa [show x7 = 5 by omega] at q9)| fail)⟩, by omega⟩
        ·
          refine T_qIn ⟨by omega, by omega⟩ ?_
          refine T_qNm (fun n6 e_n6 => ?_)
          have b_n6 : 0 ≤ n6 ∧ n6 ≤ 100000000 := by rw [e_n6]; exact bM_38 hB_o _
          unfold b_X12_setLeft_202
          refine T_qIn ⟨by omega, by omega⟩ ?_
          refine T_qNm (fun o2 e_o2 => ?_)
          have hB_o2 : BoxM o2 := by rw [e_o2]; exact Box.s1 hB_o (show 0 ≤ n6 ∧ n6 ≤ 100000000 from ⟨by omega, by omega⟩)
          have fr_o2 : Fr [(38, 9999)] i_o o2 := by rw [e_o2]; exact Fr.s1 fr_o rfl
          have sl_o2 : SL o2 = SL o - o.1 38 ((5 * x4) + x7).toNat + n6 := by rw [e_o2]; exact SL_upd (by omega)
          have sb2 : SBI o2 x1 x2 := by rw [e_o2]; exact SBI_step hB_o w3 (by omega) (by omega) (by omega) (by omega) (by omega) (show x6 = bsd x4 x5 by assumption) (by omega) ld9 fn9 (by omega)
          have de2 : ∀ k, o2.1 38 k ≤ o.1 38 k := by rw [e_o2]; exact (U38_st (by omega)).2.2.2
          have sa2 : n6 = o.1 38 (5 * x4 + x7).toNat → ∀ k, o2.1 38 k = o.1 38 k := fun e => by rw [e_o2]; exact st38_same e
          have u2 : U38 o o2 := by rw [e_o2]; exact U38_st (by omega)
          refine T_some ?_
          show (BoxM o2 ∧ (Fr [(38, 9999)] i_o o2) ∧ (0 ≤ 0 ∧ 0 ≤ 1) ∧ (0 ≤ (x7 + 1) ∧ (x7 + 1) ≤ 5) ∧ ((0 = i_x3 ∧ SL o2 = SL i_o) ∨ (0 = 1 ∧ SL o2 < SL i_o)) ∧ (SBI o2 x1 x2) ∧ (∀ k, o2.1 38 k ≤ i_o.1 38 k) ∧ ((0 : Int) = 0 → (0 : Int) = i_x3 ∧ (∀ j, o2.1 38 j = i_o.1 38 j)) ∧ ((0 : Int) = 0 → CKW o2 x4 x5 x6 (x7 + 1))) ∧ (5 - (x7 + 1)).toNat < (5 - x7).toNat
          exact ⟨⟨hB_o2, fr_o2, (by omega), (by omega), (by omega), (by first | assumption | exact SBI_0 (by omega) (by assumption)| fail), (by first | assumption | exact (fun _ => Int.le_refl _) | exact (fun k => Int.le_trans (de2 k) (w4 k))| fail), (by first | assumption | exact (fun e => absurd e (by decide)) | exact (fun e => ⟨e, fun _ => rfl⟩) | exact (fun e => ⟨(w5 (by omega)).1, fun j => (sa2 (by omega) j).trans ((w5 (by omega)).2 j)⟩) | exact (fun e => ⟨(w4 (sam9 e).1).1, fun j => ((sam9 e).2 j).trans ((w4 (sam9 e).1).2 j)⟩)| fail), (by first | assumption | exact (fun e => absurd e (by decide)) | exact (fun _ => CKW_0) | exact (fun e => CKW_s u2 (sa2 (by omega)) (w6 (by omega)) (by omega)) | (intro e; have q9 := w6 e; rwa [show x7 = 5 by omega] at q9)| fail)⟩, by omega⟩
    ·
      unfold b_X12_setLeft_151
      unfold b_X12_setLeft_156
      refine T_qIn ⟨by omega, by omega⟩ ?_
      refine T_qNm (fun n4 e_n4 => ?_)
      have b_n4 : 0 ≤ n4 ∧ n4 ≤ 100000000 := by rw [e_n4]; exact bM_38 hB_o _
      refine T_qLt ⟨by omega, by omega⟩ ⟨by omega, by omega⟩ (fun h10 => ?_) (fun h10 => ?_)
      ·
        unfold b_X12_setLeft_202
        refine T_qIn ⟨by omega, by omega⟩ ?_
        refine T_qNm (fun o2 e_o2 => ?_)
        have hB_o2 : BoxM o2 := by rw [e_o2]; exact Box.s1 hB_o (show 0 ≤ r7 ∧ r7 ≤ 100000000 from ⟨by omega, by omega⟩)
        have fr_o2 : Fr [(38, 9999)] i_o o2 := by rw [e_o2]; exact Fr.s1 fr_o rfl
        have sl_o2 : SL o2 = SL o - o.1 38 ((5 * x4) + x7).toNat + r7 := by rw [e_o2]; exact SL_upd (by omega)
        have sb2 : SBI o2 x1 x2 := by rw [e_o2]; exact SBI_step hB_o w3 (by omega) (by omega) (by omega) (by omega) (by omega) (show x6 = bsd x4 x5 by assumption) (by omega) ld9 fn9 (by omega)
        have de2 : ∀ k, o2.1 38 k ≤ o.1 38 k := by rw [e_o2]; exact (U38_st (by omega)).2.2.2
        have sa2 : r7 = o.1 38 (5 * x4 + x7).toNat → ∀ k, o2.1 38 k = o.1 38 k := fun e => by rw [e_o2]; exact st38_same e
        have u2 : U38 o o2 := by rw [e_o2]; exact U38_st (by omega)
        refine T_some ?_
        show (BoxM o2 ∧ (Fr [(38, 9999)] i_o o2) ∧ (0 ≤ 1 ∧ 1 ≤ 1) ∧ (0 ≤ (x7 + 1) ∧ (x7 + 1) ≤ 5) ∧ ((1 = i_x3 ∧ SL o2 = SL i_o) ∨ (1 = 1 ∧ SL o2 < SL i_o)) ∧ (SBI o2 x1 x2) ∧ (∀ k, o2.1 38 k ≤ i_o.1 38 k) ∧ ((0 : Int) = 1 → (0 : Int) = i_x3 ∧ (∀ j, o2.1 38 j = i_o.1 38 j)) ∧ ((0 : Int) = 1 → CKW o2 x4 x5 x6 (x7 + 1))) ∧ (5 - (x7 + 1)).toNat < (5 - x7).toNat
        exact ⟨⟨hB_o2, fr_o2, (by omega), (by omega), (by omega), (by first | assumption | exact SBI_0 (by omega) (by assumption)| fail), (by first | assumption | exact (fun _ => Int.le_refl _) | exact (fun k => Int.le_trans (de2 k) (w4 k))| fail), (by first | assumption | exact (fun e => absurd e (by decide)) | exact (fun e => ⟨e, fun _ => rfl⟩) | exact (fun e => ⟨(w5 (by omega)).1, fun j => (sa2 (by omega) j).trans ((w5 (by omega)).2 j)⟩) | exact (fun e => ⟨(w4 (sam9 e).1).1, fun j => ((sam9 e).2 j).trans ((w4 (sam9 e).1).2 j)⟩)| fail), (by first | assumption | exact (fun e => absurd e (by decide)) | exact (fun _ => CKW_0) | exact (fun e => CKW_s u2 (sa2 (by omega)) (w6 (by omega)) (by omega)) | (intro e; have q9 := w6 e; rwa [show x7 = 5 by omega] at q9)| fail)⟩, by omega⟩
      ·
        refine T_qIn ⟨by omega, by omega⟩ ?_
        refine T_qNm (fun n6 e_n6 => ?_)
        have b_n6 : 0 ≤ n6 ∧ n6 ≤ 100000000 := by rw [e_n6]; exact bM_38 hB_o _
        unfold b_X12_setLeft_202
        refine T_qIn ⟨by omega, by omega⟩ ?_
        refine T_qNm (fun o2 e_o2 => ?_)
        have hB_o2 : BoxM o2 := by rw [e_o2]; exact Box.s1 hB_o (show 0 ≤ n6 ∧ n6 ≤ 100000000 from ⟨by omega, by omega⟩)
        have fr_o2 : Fr [(38, 9999)] i_o o2 := by rw [e_o2]; exact Fr.s1 fr_o rfl
        have sl_o2 : SL o2 = SL o - o.1 38 ((5 * x4) + x7).toNat + n6 := by rw [e_o2]; exact SL_upd (by omega)
        have sb2 : SBI o2 x1 x2 := by rw [e_o2]; exact SBI_step hB_o w3 (by omega) (by omega) (by omega) (by omega) (by omega) (show x6 = bsd x4 x5 by assumption) (by omega) ld9 fn9 (by omega)
        have de2 : ∀ k, o2.1 38 k ≤ o.1 38 k := by rw [e_o2]; exact (U38_st (by omega)).2.2.2
        have sa2 : n6 = o.1 38 (5 * x4 + x7).toNat → ∀ k, o2.1 38 k = o.1 38 k := fun e => by rw [e_o2]; exact st38_same e
        have u2 : U38 o o2 := by rw [e_o2]; exact U38_st (by omega)
        refine T_some ?_
        show (BoxM o2 ∧ (Fr [(38, 9999)] i_o o2) ∧ (0 ≤ 1 ∧ 1 ≤ 1) ∧ (0 ≤ (x7 + 1) ∧ (x7 + 1) ≤ 5) ∧ ((1 = i_x3 ∧ SL o2 = SL i_o) ∨ (1 = 1 ∧ SL o2 < SL i_o)) ∧ (SBI o2 x1 x2) ∧ (∀ k, o2.1 38 k ≤ i_o.1 38 k) ∧ ((0 : Int) = 1 → (0 : Int) = i_x3 ∧ (∀ j, o2.1 38 j = i_o.1 38 j)) ∧ ((0 : Int) = 1 → CKW o2 x4 x5 x6 (x7 + 1))) ∧ (5 - (x7 + 1)).toNat < (5 - x7).toNat
        exact ⟨⟨hB_o2, fr_o2, (by omega), (by omega), (by omega), (by first | assumption | exact SBI_0 (by omega) (by assumption)| fail), (by first | assumption | exact (fun _ => Int.le_refl _) | exact (fun k => Int.le_trans (de2 k) (w4 k))| fail), (by first | assumption | exact (fun e => absurd e (by decide)) | exact (fun e => ⟨e, fun _ => rfl⟩) | exact (fun e => ⟨(w5 (by omega)).1, fun j => (sa2 (by omega) j).trans ((w5 (by omega)).2 j)⟩) | exact (fun e => ⟨(w4 (sam9 e).1).1, fun j => ((sam9 e).2 j).trans ((w4 (sam9 e).1).2 j)⟩)| fail), (by first | assumption | exact (fun e => absurd e (by decide)) | exact (fun _ => CKW_0) | exact (fun e => CKW_s u2 (sa2 (by omega)) (w6 (by omega)) (by omega)) | (intro e; have q9 := w6 e; rwa [show x7 = 5 by omega] at q9)| fail)⟩, by omega⟩
  ·
    refine T_some ?_
    show BoxM o ∧ (Fr [(38, 9999)] i_o o) ∧ (0 ≤ x3 ∧ x3 ≤ 1) ∧ ((x3 = i_x3 ∧ SL o = SL i_o) ∨ (x3 = 1 ∧ SL o < SL i_o)) ∧ (SBI o x1 x2) ∧ ((0 : Int) = x3 → (0 : Int) = i_x3 ∧ (∀ j, o.1 38 j = i_o.1 38 j)) ∧ ((0 : Int) = x3 → CKW o x4 x5 x6 5)
    exact ⟨hB_o, fr_o, (by omega), (by omega), (by first | assumption | exact SBI_0 (by omega) (by assumption)| fail), (by first | assumption | exact (fun e => absurd e (by decide)) | exact (fun e => ⟨e, fun _ => rfl⟩) | exact (fun e => ⟨(w5 (by omega)).1, fun j => (sa2 (by omega) j).trans ((w5 (by omega)).2 j)⟩) | exact (fun e => ⟨(w4 (sam9 e).1).1, fun j => ((sam9 e).2 j).trans ((w4 (sam9 e).1).2 j)⟩)| fail), (by first | assumption | exact (fun e => absurd e (by decide)) | exact (fun _ => CKW_0) | exact (fun e => CKW_s u2 (sa2 (by omega)) (w6 (by omega)) (by omega)) | (intro e; have q9 := w6 e; rwa [show x7 = 5 by omega] at q9)| fail)⟩
set_option maxRecDepth 20000 in
set_option maxHeartbeats 4000000 in
theorem tl_X12_setLeft_56 (x1 : Int) (x2 : Int) (x4 : Int) (i_o : OO) (i_x3 : Int) (i_x5 : Int) (hB_i_o : BoxM i_o) (k0 : 0 ≤ x1 ∧ x1 ≤ 63) (k1 : 0 ≤ x2 ∧ x2 ≤ 9999) (k2 : 0 ≤ x4 ∧ x4 ≤ 63) (v0 : 0 ≤ i_x3 ∧ i_x3 ≤ 1) (v1 : 0 ≤ i_x5 ∧ i_x5 ≤ 4) (v2 : (i_x3 = i_x3 ∧ SL i_o = SL i_o) ∨ (i_x3 = 1 ∧ SL i_o < SL i_o)) (v3 : SBI i_o x1 x2) (v4 : (0 : Int) = i_x3 → (0 : Int) = i_x3 ∧ (∀ j, i_o.1 38 j = i_o.1 38 j)) (v5 : (0 : Int) = i_x3 → CKY i_o x1 x2 x4 i_x5) : T (loopW (fun s => l_X12_setLeft_56 x1 x2 x4 s.1 s.2.1 s.2.2) (i_o, i_x3, i_x5)) (fun r => BoxM r.1 ∧ (Fr [(38, 9999)] i_o r.1) ∧ (0 ≤ r.2 ∧ r.2 ≤ 1) ∧ ((r.2 = i_x3 ∧ SL r.1 = SL i_o) ∨ (r.2 = 1 ∧ SL r.1 < SL i_o)) ∧ (SBI r.1 x1 x2) ∧ ((0 : Int) = r.2 → (0 : Int) = i_x3 ∧ (∀ j, r.1.1 38 j = i_o.1 38 j)) ∧ ((0 : Int) = r.2 → CKY r.1 x1 x2 x4 4)) := by
  have fr_i_o : Fr [(38, 9999)] i_o i_o := Fr.rf
  refine T_loop (fun s => BoxM s.1 ∧ (Fr [(38, 9999)] i_o s.1) ∧ (0 ≤ s.2.1 ∧ s.2.1 ≤ 1) ∧ (0 ≤ s.2.2 ∧ s.2.2 ≤ 4) ∧ ((s.2.1 = i_x3 ∧ SL s.1 = SL i_o) ∨ (s.2.1 = 1 ∧ SL s.1 < SL i_o)) ∧ (SBI s.1 x1 x2) ∧ ((0 : Int) = s.2.1 → (0 : Int) = i_x3 ∧ (∀ j, s.1.1 38 j = i_o.1 38 j)) ∧ ((0 : Int) = s.2.1 → CKY s.1 x1 x2 x4 s.2.2)) (fun s => (4 - s.2.2).toNat) ⟨hB_i_o, fr_i_o, v0, v1, v2, v3, v4, v5⟩ (fun s hs => ?_)
  obtain ⟨o, x3, x5⟩ := s
  replace hs : BoxM o ∧ (Fr [(38, 9999)] i_o o) ∧ (0 ≤ x3 ∧ x3 ≤ 1) ∧ (0 ≤ x5 ∧ x5 ≤ 4) ∧ ((x3 = i_x3 ∧ SL o = SL i_o) ∨ (x3 = 1 ∧ SL o < SL i_o)) ∧ (SBI o x1 x2) ∧ ((0 : Int) = x3 → (0 : Int) = i_x3 ∧ (∀ j, o.1 38 j = i_o.1 38 j)) ∧ ((0 : Int) = x3 → CKY o x1 x2 x4 x5) := hs
  obtain ⟨hB_o, fr_o, w0, w1, w2, w3, w4, w5⟩ := hs
  show T (l_X12_setLeft_56 x1 x2 x4 o x3 x5) _
  unfold l_X12_setLeft_56
  refine T_qLt ⟨by omega, by omega⟩ ⟨by decide, by decide⟩ (fun h11 => ?_) (fun h11 => ?_)
  ·
    refine T_qB (t_X12_beside x4 x5 (by omega) (by omega)) (fun r11 hc_r11 hp12 => ?_)
    replace hp12 : (r11 = -9 ∨ (0 ≤ r11 ∧ r11 ≤ 63 ∧ (x5 = 0 ∧ r11 = x4 - 8 ∨ x5 = 1 ∧ r11 = x4 - 1 ∨ x5 = 2 ∧ r11 = x4 + 1 ∨ x5 = 3 ∧ r11 = x4 + 8))) ∧ (r11 = bsd x4 x5) := hp12
    have hps_hp12 := hp12
    obtain ⟨hp12_0, hp12_1⟩ := hps_hp12
    replace hp12 := hid hp12
    have hq11 := hp12_1
    refine T_qEq ⟨by omega, by omega⟩ ⟨by omega, by omega⟩ (fun h13 => ?_) (fun h13 => ?_)
    ·
      unfold b_X12_setLeft_209
      refine T_some ?_
      show (BoxM o ∧ (Fr [(38, 9999)] i_o o) ∧ (0 ≤ x3 ∧ x3 ≤ 1) ∧ (0 ≤ (x5 + 1) ∧ (x5 + 1) ≤ 4) ∧ ((x3 = i_x3 ∧ SL o = SL i_o) ∨ (x3 = 1 ∧ SL o < SL i_o)) ∧ (SBI o x1 x2) ∧ ((0 : Int) = x3 → (0 : Int) = i_x3 ∧ (∀ j, o.1 38 j = i_o.1 38 j)) ∧ ((0 : Int) = x3 → CKY o x1 x2 x4 (x5 + 1))) ∧ (4 - (x5 + 1)).toNat < (4 - x5).toNat
      exact ⟨⟨hB_o, fr_o, (by omega), (by omega), (by omega), (by first | assumption | exact SBI_0 (by omega) (by assumption)| fail), (by first | assumption | exact (fun e => absurd e (by decide)) | exact (fun e => ⟨e, fun _ => rfl⟩) | exact (fun e => ⟨(w5 (by omega)).1, fun j => (sa2 (by omega) j).trans ((w5 (by omega)).2 j)⟩) | exact (fun e => ⟨(w4 (sam9 e).1).1, fun j => ((sam9 e).2 j).trans ((w4 (sam9 e).1).2 j)⟩)| fail), (by first | assumption | exact (fun e => absurd e (by decide)) | exact (fun _ => CKY_0) | exact (fun e => CKY_s (U38_rf o) (fun _ => rfl) (w5 e) (CK_skip1 (by omega))) | exact (fun e => CKY_s (U38_rf o) (fun _ => rfl) (w5 e) (CK_skip2 hq11 hc_r13 (by omega))) | exact (fun e => CKY_s (U38_rf o) (fun _ => rfl) (w5 e) (CK_skip3 hq11 (by omega))) | exact (fun e => CKY_s (u8 e) (sam9 e).2 (w5 (sam9 e).1) (CK_of hq11 (ckw9 e))) | (intro e; have q9 := w5 e; rwa [show x5 = 4 by omega] at q9)| fail)⟩, by omega⟩
    ·
      refine T_qB (t_X12_leads o x4 r11 x2 hB_o (by omega) (by omega) (by omega)) (fun r13 hc_r13 hp14 => ?_)
      replace hp14 : ((r13 = 1 ∧ 0 ≤ r11) ∨ r13 = 0) := hp14
      have ld8 : ¬ r13 = 0 → LD o x4 r11 x2 := fun e => ⟨r13, hc_r13, e⟩
      refine T_qEq ⟨by omega, by omega⟩ ⟨by decide, by decide⟩ (fun h15 => ?_) (fun h15 => ?_)
      ·
        unfold b_X12_setLeft_209
        refine T_some ?_
        show (BoxM o ∧ (Fr [(38, 9999)] i_o o) ∧ (0 ≤ x3 ∧ x3 ≤ 1) ∧ (0 ≤ (x5 + 1) ∧ (x5 + 1) ≤ 4) ∧ ((x3 = i_x3 ∧ SL o = SL i_o) ∨ (x3 = 1 ∧ SL o < SL i_o)) ∧ (SBI o x1 x2) ∧ ((0 : Int) = x3 → (0 : Int) = i_x3 ∧ (∀ j, o.1 38 j = i_o.1 38 j)) ∧ ((0 : Int) = x3 → CKY o x1 x2 x4 (x5 + 1))) ∧ (4 - (x5 + 1)).toNat < (4 - x5).toNat
        exact ⟨⟨hB_o, fr_o, (by omega), (by omega), (by omega), (by first | assumption | exact SBI_0 (by omega) (by assumption)| fail), (by first | assumption | exact (fun e => absurd e (by decide)) | exact (fun e => ⟨e, fun _ => rfl⟩) | exact (fun e => ⟨(w5 (by omega)).1, fun j => (sa2 (by omega) j).trans ((w5 (by omega)).2 j)⟩) | exact (fun e => ⟨(w4 (sam9 e).1).1, fun j => ((sam9 e).2 j).trans ((w4 (sam9 e).1).2 j)⟩)| fail), (by first | assumption | exact (fun e => absurd e (by decide)) | exact (fun _ => CKY_0) | exact (fun e => CKY_s (U38_rf o) (fun _ => rfl) (w5 e) (CK_skip1 (by omega))) | exact (fun e => CKY_s (U38_rf o) (fun _ => rfl) (w5 e) (CK_skip2 hq11 hc_r13 (by omega))) | exact (fun e => CKY_s (U38_rf o) (fun _ => rfl) (w5 e) (CK_skip3 hq11 (by omega))) | exact (fun e => CKY_s (u8 e) (sam9 e).2 (w5 (sam9 e).1) (CK_of hq11 (ckw9 e))) | (intro e; have q9 := w5 e; rwa [show x5 = 4 by omega] at q9)| fail)⟩, by omega⟩
      ·
        refine T_qIn ⟨by omega, by omega⟩ ?_
        refine T_qNm (fun n16 e_n16 => ?_)
        have b_n16 : 0 ≤ n16 ∧ n16 ≤ 100000000 := by rw [e_n16]; exact bM_38 hB_o _
        refine T_qLt ⟨by omega, by omega⟩ ⟨by decide, by decide⟩ (fun h16 => ?_) (fun h16 => ?_)
        ·
          unfold e_X12_setLeft_110
          refine T_qB (tl_X12_setLeft_110 x1 x2 x4 x5 r11 o x3 0 hB_o (by omega) (by omega) (by omega) (by omega) (by omega) (by omega) (by omega) (ld8 (by omega)) (by unfold FN; omega) (by omega) (by omega) (by omega) (by first | assumption | exact SBI_0 (by omega) (by assumption)| fail) (by first | assumption | exact (fun _ => Int.le_refl _) | exact (fun k => Int.le_trans (de2 k) (w4 k))| fail) (by first | assumption | exact (fun e => absurd e (by decide)) | exact (fun e => ⟨e, fun _ => rfl⟩) | exact (fun e => ⟨(w5 (by omega)).1, fun j => (sa2 (by omega) j).trans ((w5 (by omega)).2 j)⟩) | exact (fun e => ⟨(w4 (sam9 e).1).1, fun j => ((sam9 e).2 j).trans ((w4 (sam9 e).1).2 j)⟩)| fail) (by first | assumption | exact (fun e => absurd e (by decide)) | exact (fun _ => CKW_0) | exact (fun e => CKW_s u2 (sa2 (by omega)) (w6 (by omega)) (by omega)) | (intro e; have q9 := w6 e; rwa [show x7 = 5 by omega] at q9)| fail)) (fun r17 hc_r17 hp18 => ?_)
          obtain ⟨o_19, x3_20⟩ := r17
          replace hp18 : BoxM o_19 ∧ (Fr [(38, 9999)] o o_19) ∧ (0 ≤ x3_20 ∧ x3_20 ≤ 1) ∧ ((x3_20 = x3 ∧ SL o_19 = SL o) ∨ (x3_20 = 1 ∧ SL o_19 < SL o)) ∧ (SBI o_19 x1 x2) ∧ ((0 : Int) = x3_20 → (0 : Int) = x3 ∧ (∀ j, o_19.1 38 j = o.1 38 j)) ∧ ((0 : Int) = x3_20 → CKW o_19 x4 x5 r11 5) := hp18
          have hps_hp18 := hp18
          obtain ⟨hp18_0, hp18_1, hp18_2, hp18_3, hp18_4, hp18_5, hp18_6⟩ := hps_hp18
          obtain ⟨hB_o_19, fc_o_19, hp18⟩ := hp18
          replace hp18 := hid hp18
          have fr_o_19 : Fr [(38, 9999)] i_o o_19 := Fr.tr fr_o fc_o_19 rfl
          show T (b_X12_setLeft_209 o_19 x1 x2 x3_20 x4 x5) _
          have sam9 : (0 : Int) = x3_20 → (0 : Int) = x3 ∧ (∀ j, o_19.1 38 j = o.1 38 j) := by assumption
          have u8 : (0 : Int) = x3_20 → U38 o o_19 := fun e => U38.of fc_o_19 (fun _ => rfl) (fun _ => rfl) (fun _ => rfl) (fun k => Int.le_of_eq ((sam9 e).2 k))
          have ckw9 : (0 : Int) = x3_20 → CKW o_19 x4 x5 r11 5 := by assumption
          unfold b_X12_setLeft_209
          refine T_some ?_
          show (BoxM o_19 ∧ (Fr [(38, 9999)] i_o o_19) ∧ (0 ≤ x3_20 ∧ x3_20 ≤ 1) ∧ (0 ≤ (x5 + 1) ∧ (x5 + 1) ≤ 4) ∧ ((x3_20 = i_x3 ∧ SL o_19 = SL i_o) ∨ (x3_20 = 1 ∧ SL o_19 < SL i_o)) ∧ (SBI o_19 x1 x2) ∧ ((0 : Int) = x3_20 → (0 : Int) = i_x3 ∧ (∀ j, o_19.1 38 j = i_o.1 38 j)) ∧ ((0 : Int) = x3_20 → CKY o_19 x1 x2 x4 (x5 + 1))) ∧ (4 - (x5 + 1)).toNat < (4 - x5).toNat
          exact ⟨⟨hB_o_19, fr_o_19, (by omega), (by omega), (by omega), (by first | assumption | exact SBI_0 (by omega) (by assumption)| fail), (by first | assumption | exact (fun e => absurd e (by decide)) | exact (fun e => ⟨e, fun _ => rfl⟩) | exact (fun e => ⟨(w5 (by omega)).1, fun j => (sa2 (by omega) j).trans ((w5 (by omega)).2 j)⟩) | exact (fun e => ⟨(w4 (sam9 e).1).1, fun j => ((sam9 e).2 j).trans ((w4 (sam9 e).1).2 j)⟩)| fail), (by first | assumption | exact (fun e => absurd e (by decide)) | exact (fun _ => CKY_0) | exact (fun e => CKY_s (U38_rf o) (fun _ => rfl) (w5 e) (CK_skip1 (by omega))) | exact (fun e => CKY_s (U38_rf o) (fun _ => rfl) (w5 e) (CK_skip2 hq11 hc_r13 (by omega))) | exact (fun e => CKY_s (U38_rf o) (fun _ => rfl) (w5 e) (CK_skip3 hq11 (by omega))) | exact (fun e => CKY_s (u8 e) (sam9 e).2 (w5 (sam9 e).1) (CK_of hq11 (ckw9 e))) | (intro e; have q9 := w5 e; rwa [show x5 = 4 by omega] at q9)| fail)⟩, by omega⟩
        ·
          unfold b_X12_setLeft_209
          refine T_some ?_
          show (BoxM o ∧ (Fr [(38, 9999)] i_o o) ∧ (0 ≤ x3 ∧ x3 ≤ 1) ∧ (0 ≤ (x5 + 1) ∧ (x5 + 1) ≤ 4) ∧ ((x3 = i_x3 ∧ SL o = SL i_o) ∨ (x3 = 1 ∧ SL o < SL i_o)) ∧ (SBI o x1 x2) ∧ ((0 : Int) = x3 → (0 : Int) = i_x3 ∧ (∀ j, o.1 38 j = i_o.1 38 j)) ∧ ((0 : Int) = x3 → CKY o x1 x2 x4 (x5 + 1))) ∧ (4 - (x5 + 1)).toNat < (4 - x5).toNat
          exact ⟨⟨hB_o, fr_o, (by omega), (by omega), (by omega), (by first | assumption | exact SBI_0 (by omega) (by assumption)| fail), (by first | assumption | exact (fun e => absurd e (by decide)) | exact (fun e => ⟨e, fun _ => rfl⟩) | exact (fun e => ⟨(w5 (by omega)).1, fun j => (sa2 (by omega) j).trans ((w5 (by omega)).2 j)⟩) | exact (fun e => ⟨(w4 (sam9 e).1).1, fun j => ((sam9 e).2 j).trans ((w4 (sam9 e).1).2 j)⟩)| fail), (by first | assumption | exact (fun e => absurd e (by decide)) | exact (fun _ => CKY_0) | exact (fun e => CKY_s (U38_rf o) (fun _ => rfl) (w5 e) (CK_skip1 (by omega))) | exact (fun e => CKY_s (U38_rf o) (fun _ => rfl) (w5 e) (CK_skip2 hq11 hc_r13 (by omega))) | exact (fun e => CKY_s (U38_rf o) (fun _ => rfl) (w5 e) (CK_skip3 hq11 (by omega))) | exact (fun e => CKY_s (u8 e) (sam9 e).2 (w5 (sam9 e).1) (CK_of hq11 (ckw9 e))) | (intro e; have q9 := w5 e; rwa [show x5 = 4 by omega] at q9)| fail)⟩, by omega⟩
  ·
    refine T_some ?_
    show BoxM o ∧ (Fr [(38, 9999)] i_o o) ∧ (0 ≤ x3 ∧ x3 ≤ 1) ∧ ((x3 = i_x3 ∧ SL o = SL i_o) ∨ (x3 = 1 ∧ SL o < SL i_o)) ∧ (SBI o x1 x2) ∧ ((0 : Int) = x3 → (0 : Int) = i_x3 ∧ (∀ j, o.1 38 j = i_o.1 38 j)) ∧ ((0 : Int) = x3 → CKY o x1 x2 x4 4)
    exact ⟨hB_o, fr_o, (by omega), (by omega), (by first | assumption | exact SBI_0 (by omega) (by assumption)| fail), (by first | assumption | exact (fun e => absurd e (by decide)) | exact (fun e => ⟨e, fun _ => rfl⟩) | exact (fun e => ⟨(w5 (by omega)).1, fun j => (sa2 (by omega) j).trans ((w5 (by omega)).2 j)⟩) | exact (fun e => ⟨(w4 (sam9 e).1).1, fun j => ((sam9 e).2 j).trans ((w4 (sam9 e).1).2 j)⟩)| fail), (by first | assumption | exact (fun e => absurd e (by decide)) | exact (fun _ => CKY_0) | exact (fun e => CKY_s (U38_rf o) (fun _ => rfl) (w5 e) (CK_skip1 (by omega))) | exact (fun e => CKY_s (U38_rf o) (fun _ => rfl) (w5 e) (CK_skip2 hq11 hc_r13 (by omega))) | exact (fun e => CKY_s (U38_rf o) (fun _ => rfl) (w5 e) (CK_skip3 hq11 (by omega))) | exact (fun e => CKY_s (u8 e) (sam9 e).2 (w5 (sam9 e).1) (CK_of hq11 (ckw9 e))) | (intro e; have q9 := w5 e; rwa [show x5 = 4 by omega] at q9)| fail)⟩
set_option maxRecDepth 20000 in
set_option maxHeartbeats 4000000 in
theorem tl_X12_setLeft_46 (x1 : Int) (x2 : Int) (i_o : OO) (i_x3 : Int) (i_x4 : Int) (hB_i_o : BoxM i_o) (k0 : 0 ≤ x1 ∧ x1 ≤ 63) (k1 : 0 ≤ x2 ∧ x2 ≤ 9999) (v0 : 0 ≤ i_x3 ∧ i_x3 ≤ 1) (v1 : 0 ≤ i_x4 ∧ i_x4 ≤ 64) (v2 : (i_x3 = i_x3 ∧ SL i_o = SL i_o) ∨ (i_x3 = 1 ∧ SL i_o < SL i_o)) (v3 : SBI i_o x1 x2) (v4 : (0 : Int) = i_x3 → CKC i_o x1 x2 i_x4) : T (loopW (fun s => l_X12_setLeft_46 x1 x2 s.1 s.2.1 s.2.2) (i_o, i_x3, i_x4)) (fun r => BoxM r.1 ∧ (Fr [(38, 9999)] i_o r.1) ∧ (0 ≤ r.2 ∧ r.2 ≤ 1) ∧ ((r.2 = i_x3 ∧ SL r.1 = SL i_o) ∨ (r.2 = 1 ∧ SL r.1 < SL i_o)) ∧ (SBI r.1 x1 x2) ∧ ((0 : Int) = r.2 → B1 r.1 x1 x2)) := by
  have fr_i_o : Fr [(38, 9999)] i_o i_o := Fr.rf
  refine T_loop (fun s => BoxM s.1 ∧ (Fr [(38, 9999)] i_o s.1) ∧ (0 ≤ s.2.1 ∧ s.2.1 ≤ 1) ∧ (0 ≤ s.2.2 ∧ s.2.2 ≤ 64) ∧ ((s.2.1 = i_x3 ∧ SL s.1 = SL i_o) ∨ (s.2.1 = 1 ∧ SL s.1 < SL i_o)) ∧ (SBI s.1 x1 x2) ∧ ((0 : Int) = s.2.1 → CKC s.1 x1 x2 s.2.2)) (fun s => (64 - s.2.2).toNat) ⟨hB_i_o, fr_i_o, v0, v1, v2, v3, v4⟩ (fun s hs => ?_)
  obtain ⟨o, x3, x4⟩ := s
  replace hs : BoxM o ∧ (Fr [(38, 9999)] i_o o) ∧ (0 ≤ x3 ∧ x3 ≤ 1) ∧ (0 ≤ x4 ∧ x4 ≤ 64) ∧ ((x3 = i_x3 ∧ SL o = SL i_o) ∨ (x3 = 1 ∧ SL o < SL i_o)) ∧ (SBI o x1 x2) ∧ ((0 : Int) = x3 → CKC o x1 x2 x4) := hs
  obtain ⟨hB_o, fr_o, w0, w1, w2, w3, w4⟩ := hs
  show T (l_X12_setLeft_46 x1 x2 o x3 x4) _
  unfold l_X12_setLeft_46
  refine T_qLt ⟨by omega, by omega⟩ ⟨by decide, by decide⟩ (fun h21 => ?_) (fun h21 => ?_)
  ·
    unfold e_X12_setLeft_56
    refine T_qB (tl_X12_setLeft_56 x1 x2 x4 o x3 0 hB_o (by omega) (by omega) (by omega) (by omega) (by omega) (by omega) (by first | assumption | exact SBI_0 (by omega) (by assumption)| fail) (by first | assumption | exact (fun e => absurd e (by decide)) | exact (fun e => ⟨e, fun _ => rfl⟩) | exact (fun e => ⟨(w5 (by omega)).1, fun j => (sa2 (by omega) j).trans ((w5 (by omega)).2 j)⟩) | exact (fun e => ⟨(w4 (sam9 e).1).1, fun j => ((sam9 e).2 j).trans ((w4 (sam9 e).1).2 j)⟩)| fail) (by first | assumption | exact (fun e => absurd e (by decide)) | exact (fun _ => CKY_0) | exact (fun e => CKY_s (U38_rf o) (fun _ => rfl) (w5 e) (CK_skip1 (by omega))) | exact (fun e => CKY_s (U38_rf o) (fun _ => rfl) (w5 e) (CK_skip2 hq11 hc_r13 (by omega))) | exact (fun e => CKY_s (U38_rf o) (fun _ => rfl) (w5 e) (CK_skip3 hq11 (by omega))) | exact (fun e => CKY_s (u8 e) (sam9 e).2 (w5 (sam9 e).1) (CK_of hq11 (ckw9 e))) | (intro e; have q9 := w5 e; rwa [show x5 = 4 by omega] at q9)| fail)) (fun r22 hc_r22 hp23 => ?_)
    obtain ⟨o_24, x3_25⟩ := r22
    replace hp23 : BoxM o_24 ∧ (Fr [(38, 9999)] o o_24) ∧ (0 ≤ x3_25 ∧ x3_25 ≤ 1) ∧ ((x3_25 = x3 ∧ SL o_24 = SL o) ∨ (x3_25 = 1 ∧ SL o_24 < SL o)) ∧ (SBI o_24 x1 x2) ∧ ((0 : Int) = x3_25 → (0 : Int) = x3 ∧ (∀ j, o_24.1 38 j = o.1 38 j)) ∧ ((0 : Int) = x3_25 → CKY o_24 x1 x2 x4 4) := hp23
    have hps_hp23 := hp23
    obtain ⟨hp23_0, hp23_1, hp23_2, hp23_3, hp23_4, hp23_5, hp23_6⟩ := hps_hp23
    obtain ⟨hB_o_24, fc_o_24, hp23⟩ := hp23
    replace hp23 := hid hp23
    have fr_o_24 : Fr [(38, 9999)] i_o o_24 := Fr.tr fr_o fc_o_24 rfl
    show T (b_X12_setLeft_215 o_24 x1 x2 x3_25 x4) _
    have sam9 : (0 : Int) = x3_25 → (0 : Int) = x3 ∧ (∀ j, o_24.1 38 j = o.1 38 j) := by assumption
    have u8 : (0 : Int) = x3_25 → U38 o o_24 := fun e => U38.of fc_o_24 (fun _ => rfl) (fun _ => rfl) (fun _ => rfl) (fun k => Int.le_of_eq ((sam9 e).2 k))
    have cky9 : (0 : Int) = x3_25 → CKY o_24 x1 x2 x4 4 := by assumption
    unfold b_X12_setLeft_215
    refine T_some ?_
    show (BoxM o_24 ∧ (Fr [(38, 9999)] i_o o_24) ∧ (0 ≤ x3_25 ∧ x3_25 ≤ 1) ∧ (0 ≤ (x4 + 1) ∧ (x4 + 1) ≤ 64) ∧ ((x3_25 = i_x3 ∧ SL o_24 = SL i_o) ∨ (x3_25 = 1 ∧ SL o_24 < SL i_o)) ∧ (SBI o_24 x1 x2) ∧ ((0 : Int) = x3_25 → CKC o_24 x1 x2 (x4 + 1))) ∧ (64 - (x4 + 1)).toNat < (64 - x4).toNat
    exact ⟨⟨hB_o_24, fr_o_24, (by omega), (by omega), (by omega), (by first | assumption | exact SBI_0 (by omega) (by assumption)| fail), (by first | assumption | exact (fun _ => CKC_0) | exact (fun e => CKC_s (u8 e) (sam9 e).2 (w4 (sam9 e).1) (cky9 e))| fail)⟩, by omega⟩
  ·
    refine T_some ?_
    show BoxM o ∧ (Fr [(38, 9999)] i_o o) ∧ (0 ≤ x3 ∧ x3 ≤ 1) ∧ ((x3 = i_x3 ∧ SL o = SL i_o) ∨ (x3 = 1 ∧ SL o < SL i_o)) ∧ (SBI o x1 x2) ∧ ((0 : Int) = x3 → B1 o x1 x2)
    exact ⟨hB_o, fr_o, (by omega), (by omega), (by first | assumption | exact SBI_0 (by omega) (by assumption)| fail), (by first | assumption | exact (fun e => absurd e (by decide)) | (intro e c y w h0 h1 h2 h3 h4 h5; exact w4 e c y w h0 (by omega) h2 h3 h4 h5)| fail)⟩
set_option maxRecDepth 20000 in
set_option maxHeartbeats 4000000 in
theorem tl_X12_setLeft_37 (x1 : Int) (x2 : Int) (i_o : OO) (i_x3 : Int) (hB_i_o : BoxM i_o) (k0 : 0 ≤ x1 ∧ x1 ≤ 63) (k1 : 0 ≤ x2 ∧ x2 ≤ 9999) (v0 : 0 ≤ i_x3 ∧ i_x3 ≤ 1) (v1 : SBI i_o x1 x2) (v2 : (0 : Int) = i_x3 → B1 i_o x1 x2) : T (loopW (fun s => l_X12_setLeft_37 x1 x2 s.1 s.2) (i_o, i_x3)) (fun r => BoxM r ∧ (Fr [(38, 9999)] i_o r) ∧ (SBI r x1 x2) ∧ (B1 r x1 x2)) := by
  have fr_i_o : Fr [(38, 9999)] i_o i_o := Fr.rf
  refine T_loop (fun s => BoxM s.1 ∧ (Fr [(38, 9999)] i_o s.1) ∧ (0 ≤ s.2 ∧ s.2 ≤ 1) ∧ (SBI s.1 x1 x2) ∧ ((0 : Int) = s.2 → B1 s.1 x1 x2)) (fun s => (SL s.1).toNat + s.2.toNat) ⟨hB_i_o, fr_i_o, v0, v1, v2⟩ (fun s hs => ?_)
  obtain ⟨o, x3⟩ := s
  replace hs : BoxM o ∧ (Fr [(38, 9999)] i_o o) ∧ (0 ≤ x3 ∧ x3 ≤ 1) ∧ (SBI o x1 x2) ∧ ((0 : Int) = x3 → B1 o x1 x2) := hs
  obtain ⟨hB_o, fr_o, w0, w1, w2⟩ := hs
  have sln := SL_nn hB_o
  show T (l_X12_setLeft_37 x1 x2 o x3) _
  unfold l_X12_setLeft_37
  refine T_qEq ⟨by omega, by omega⟩ ⟨by decide, by decide⟩ (fun h26 => ?_) (fun h26 => ?_)
  ·
    refine T_some ?_
    show BoxM o ∧ (Fr [(38, 9999)] i_o o) ∧ (SBI o x1 x2) ∧ (B1 o x1 x2)
    exact ⟨hB_o, fr_o, (by first | assumption | exact SBI_0 (by omega) (by assumption)| fail), (by first | assumption | exact w2 (by omega)| fail)⟩
  ·
    unfold e_X12_setLeft_46
    refine T_qB (tl_X12_setLeft_46 x1 x2 o 0 0 hB_o (by omega) (by omega) (by omega) (by omega) (by omega) (by first | assumption | exact SBI_0 (by omega) (by assumption)| fail) (by first | assumption | exact (fun _ => CKC_0) | exact (fun e => CKC_s (u8 e) (sam9 e).2 (w4 (sam9 e).1) (cky9 e))| fail)) (fun r27 hc_r27 hp28 => ?_)
    obtain ⟨o_29, x3_30⟩ := r27
    replace hp28 : BoxM o_29 ∧ (Fr [(38, 9999)] o o_29) ∧ (0 ≤ x3_30 ∧ x3_30 ≤ 1) ∧ ((x3_30 = 0 ∧ SL o_29 = SL o) ∨ (x3_30 = 1 ∧ SL o_29 < SL o)) ∧ (SBI o_29 x1 x2) ∧ ((0 : Int) = x3_30 → B1 o_29 x1 x2) := hp28
    have hps_hp28 := hp28
    obtain ⟨hp28_0, hp28_1, hp28_2, hp28_3, hp28_4, hp28_5⟩ := hps_hp28
    obtain ⟨hB_o_29, fc_o_29, hp28⟩ := hp28
    replace hp28 := hid hp28
    have fr_o_29 : Fr [(38, 9999)] i_o o_29 := Fr.tr fr_o fc_o_29 rfl
    show T (b_X12_setLeft_221 o_29 x1 x2 x3_30) _
    have slm := SL_nn hB_o_29
    unfold b_X12_setLeft_221
    refine T_some ?_
    show (BoxM o_29 ∧ (Fr [(38, 9999)] i_o o_29) ∧ (0 ≤ x3_30 ∧ x3_30 ≤ 1) ∧ (SBI o_29 x1 x2) ∧ ((0 : Int) = x3_30 → B1 o_29 x1 x2)) ∧ (SL o_29).toNat + x3_30.toNat < (SL o).toNat + x3.toNat
    exact ⟨⟨hB_o_29, fr_o_29, (by omega), (by first | assumption | exact SBI_0 (by omega) (by assumption)| fail), (by first | assumption | exact (fun e => absurd e (by decide)) | (intro e c y w h0 h1 h2 h3 h4 h5; exact w4 e c y w h0 (by omega) h2 h3 h4 h5)| fail)⟩, by omega⟩
set_option maxRecDepth 20000 in
set_option maxHeartbeats 4000000 in
theorem t_X12_setLeft (o : OO) (x1 : Int) (x2 : Int) (hB_o : BoxM o) (k0 : 0 ≤ x1 ∧ x1 ≤ 63) (k1 : 0 ≤ x2 ∧ x2 ≤ 9999) : T (s_X12_setLeft o x1 x2) (fun v => BoxM v ∧ (Fr [(38, 9999)] o v) ∧ (SBI v x1 x2) ∧ (B1 v x1 x2)) := by
  have fr_o : Fr [(38, 9999)] o o := Fr.rf
  unfold s_X12_setLeft
  unfold e_X12_setLeft_2
  refine T_qB (tl_X12_setLeft_2 x1 x2 o 0 hB_o (by omega) (by omega) (by first | assumption | exact INI_0 | (have q9 := w1; rwa [show x3 = 320 by omega] at q9)| fail)) (fun r31 hc_r31 hp32 => ?_)
  obtain ⟨o_33, q_o_33⟩ : ∃ q, q = r31 := ⟨_, rfl⟩
  subst q_o_33
  replace hp32 : BoxM o_33 ∧ (Fr [(38, 9999)] o o_33) ∧ (INI o_33 x1 320) := hp32
  have hps_hp32 := hp32
  obtain ⟨hp32_0, hp32_1, hp32_2⟩ := hps_hp32
  obtain ⟨hB_o_33, fc_o_33, hp32⟩ := hp32
  replace hp32 := hid hp32
  have fr_o_33 : Fr [(38, 9999)] o o_33 := Fr.tr fr_o fc_o_33 rfl
  show T (b_X12_setLeft_35 o_33 x1 x2) _
  unfold b_X12_setLeft_35
  unfold e_X12_setLeft_37
  refine T_qB (tl_X12_setLeft_37 x1 x2 o_33 1 hB_o_33 (by omega) (by omega) (by omega) (by first | assumption | exact SBI_0 (by omega) (by assumption)| fail) (by first | assumption | exact (fun e => absurd e (by decide)) | (intro e c y w h0 h1 h2 h3 h4 h5; exact w4 e c y w h0 (by omega) h2 h3 h4 h5)| fail)) (fun r34 hc_r34 hp35 => ?_)
  obtain ⟨o_36, q_o_36⟩ : ∃ q, q = r34 := ⟨_, rfl⟩
  subst q_o_36
  replace hp35 : BoxM o_36 ∧ (Fr [(38, 9999)] o_33 o_36) ∧ (SBI o_36 x1 x2) ∧ (B1 o_36 x1 x2) := hp35
  have hps_hp35 := hp35
  obtain ⟨hp35_0, hp35_1, hp35_2, hp35_3⟩ := hps_hp35
  obtain ⟨hB_o_36, fc_o_36, hp35⟩ := hp35
  replace hp35 := hid hp35
  have fr_o_36 : Fr [(38, 9999)] o o_36 := Fr.tr fr_o_33 fc_o_36 rfl
  show T (b_X12_setLeft_224 o_36) _
  unfold b_X12_setLeft_224
  refine T_some ?_
  show BoxM o_36 ∧ (Fr [(38, 9999)] o o_36) ∧ (SBI o_36 x1 x2) ∧ (B1 o_36 x1 x2)
  exact ⟨hB_o_36, fr_o_36, (by first | assumption | exact SBI_0 (by omega) (by assumption)| fail), (by first | assumption | exact w2 (by omega)| fail)⟩
theorem t_X12_line (o : OO) (x1 : Int) (x2 : Int) (x3 : Int) (hB_o : BoxM o) (k0 : inR x1) (k1 : inR x2) (k2 : inR x3) : T (s_X12_line o x1 x2 x3) (fun v => BoxM v.2 ∧ (Fr [(0, 0), (0, 32), (1, 9999), (25, 9999), (26, 9999), (27, 9999), (28, 9999), (29, 9999), (30, 9999), (31, 9999), (38, 9999), (39, 9999)] o v.2)) := by sorry
set_option maxRecDepth 20000 in
set_option maxHeartbeats 4000000 in
theorem t_X12_mark (o : OO) (x1 : Int) (x2 : Int) (hB_o : BoxM o) (k0 : inR x1) (k1 : inR x2) : T (s_X12_mark o x1 x2) (fun v => BoxM v.2 ∧ (Fr [(0, 0), (1, 9999)] o v.2)) := by
  have fr_o : Fr [(0, 0), (1, 9999)] o o := Fr.rf
  have g0_32_o := bM_0_32 hB_o
  unfold s_X12_mark
  refine T_qB (t_X12_isMark o x1 hB_o (by omega)) (fun r18 hc_r18 hp1 => ?_)
  replace hp1 : ((r18 = 1 ∧ 0 ≤ x1 ∧ x1 < o.1 0 32) ∨ (r18 = 0 ∧ (x1 < 0 ∨ o.1 0 32 ≤ x1))) := hp1
  refine T_qEq ⟨by omega, by omega⟩ ⟨by decide, by decide⟩ (fun h2 => ?_) (fun h2 => ?_)
  ·
    unfold b_X12_mark_18
    refine T_some ?_
    show BoxM o ∧ (Fr [(0, 0), (1, 9999)] o o)
    exact ⟨hB_o, fr_o⟩
  ·
    refine T_qB (t_X12_in x2 1 6 (by omega) (by omega) (by omega)) (fun r20 hc_r20 hp3 => ?_)
    replace hp3 : ((r20 = 1 ∧ 1 ≤ x2 ∧ x2 ≤ 6) ∨ (r20 = 0 ∧ (x2 < 1 ∨ 6 < x2))) := hp3
    refine T_qEq ⟨by omega, by omega⟩ ⟨by decide, by decide⟩ (fun h4 => ?_) (fun h4 => ?_)
    ·
      unfold b_X12_mark_18
      refine T_some ?_
      show BoxM o ∧ (Fr [(0, 0), (1, 9999)] o o)
      exact ⟨hB_o, fr_o⟩
    ·
      refine T_qIn ⟨by omega, by omega⟩ ?_
      refine T_qNm (fun n23 e_n23 => ?_)
      have b_n23 : 0 ≤ n23 ∧ n23 ≤ 6 := by rw [e_n23]; exact bM_25 hB_o _
      refine T_qEq ⟨by omega, by omega⟩ ⟨by omega, by omega⟩ (fun h5 => ?_) (fun h5 => ?_)
      ·
        unfold b_X12_mark_60
        unfold b_X12_mark_65
        refine T_qEq ⟨by decide, by decide⟩ ⟨by decide, by decide⟩ (fun h6 => ?_) (fun h6 => ?_)
        ·
          refine T_qB2 (t_X12_meets o 3 hB_o (by omega)) (fun r13 o15 hc_r13 hp7 => ?_)
          replace hp7 : BoxM o15 ∧ (Fr [(0, 0), (1, 9999)] o o15) ∧ (r13 = -3) := hp7
          obtain ⟨hB_o15, fc_o15, hp7⟩ := hp7
          have fr_o15 : Fr [(0, 0), (1, 9999)] o o15 := Fr.tr fr_o fc_o15 rfl
          have g0_32_o15 : o15.1 0 32 = o.1 0 32 := fc_o15.1 0 32 rfl
          refine T_some ?_
          show BoxM o15 ∧ (Fr [(0, 0), (1, 9999)] o o15)
          exact ⟨hB_o15, fr_o15⟩
        ·
          refine T_qEq ⟨by omega, by omega⟩ ⟨by decide, by decide⟩ (fun h8 => ?_) (fun h8 => ?_)
          ·
            refine T_qIn ⟨by omega, by omega⟩ ?_
            refine T_qNm (fun n2 e_n2 => ?_)
            have b_n2 : 0 ≤ n2 ∧ n2 ≤ 64 := by rw [e_n2]; exact bM_30 hB_o _
            refine T_some ?_
            show BoxM o ∧ (Fr [(0, 0), (1, 9999)] o o)
            exact ⟨hB_o, fr_o⟩
          ·
            refine T_qEq ⟨by omega, by omega⟩ ⟨by decide, by decide⟩ (fun h9 => ?_) (fun h9 => ?_)
            ·
              refine T_qIn ⟨by omega, by omega⟩ ?_
              refine T_qNm (fun n4 e_n4 => ?_)
              have b_n4 : 0 ≤ n4 ∧ n4 ≤ 63 := by rw [e_n4]; exact bM_31 hB_o _
              refine T_some ?_
              show BoxM o ∧ (Fr [(0, 0), (1, 9999)] o o)
              exact ⟨hB_o, fr_o⟩
            ·
              refine T_qEq ⟨by omega, by omega⟩ ⟨by decide, by decide⟩ (fun h10 => ?_) (fun h10 => ?_)
              ·
                refine T_qIn ⟨by omega, by omega⟩ ?_
                refine T_qNm (fun n6 e_n6 => ?_)
                have b_n6 : 0 ≤ n6 ∧ n6 ≤ 10000000 := by rw [e_n6]; exact bM_32 hB_o _
                refine T_some ?_
                show BoxM o ∧ (Fr [(0, 0), (1, 9999)] o o)
                exact ⟨hB_o, fr_o⟩
              ·
                refine T_qEq ⟨by omega, by omega⟩ ⟨by decide, by decide⟩ (fun h11 => ?_) (fun h11 => ?_)
                ·
                  refine T_qIn ⟨by omega, by omega⟩ ?_
                  refine T_qNm (fun n8 e_n8 => ?_)
                  have b_n8 : 0 ≤ n8 ∧ n8 ≤ 39 := by rw [e_n8]; exact bM_33 hB_o _
                  refine T_some ?_
                  show BoxM o ∧ (Fr [(0, 0), (1, 9999)] o o)
                  exact ⟨hB_o, fr_o⟩
                ·
                  refine T_qEq ⟨by omega, by omega⟩ ⟨by decide, by decide⟩ (fun h12 => ?_) (fun h12 => ?_)
                  ·
                    refine T_qIn ⟨by omega, by omega⟩ ?_
                    refine T_qNm (fun n10 e_n10 => ?_)
                    have b_n10 : 0 ≤ n10 ∧ n10 ≤ 63 := by rw [e_n10]; exact bM_35 hB_o _
                    refine T_some ?_
                    show BoxM o ∧ (Fr [(0, 0), (1, 9999)] o o)
                    exact ⟨hB_o, fr_o⟩
                  ·
                    refine T_qB (t_X12_couldCome o x1 hB_o (by omega)) (fun r11 hc_r11 hp13 => ?_)
                    replace hp13 : (0 ≤ r11 ∧ r11 ≤ 40) := hp13
                    refine T_some ?_
                    show BoxM o ∧ (Fr [(0, 0), (1, 9999)] o o)
                    exact ⟨hB_o, fr_o⟩
      ·
        refine T_qEq ⟨by omega, by omega⟩ ⟨by decide, by decide⟩ (fun h14 => ?_) (fun h14 => ?_)
        ·
          refine T_qIn ⟨by omega, by omega⟩ ?_
          refine T_qNm (fun n25 e_n25 => ?_)
          have b_n25 : 0 ≤ n25 ∧ n25 ≤ 6 := by rw [e_n25]; exact bM_25 hB_o _
          refine T_qEq ⟨by omega, by omega⟩ ⟨by decide, by decide⟩ (fun h15 => ?_) (fun h15 => ?_)
          ·
            unfold b_X12_mark_60
            unfold b_X12_mark_65
            refine T_qEq ⟨by decide, by decide⟩ ⟨by decide, by decide⟩ (fun h16 => ?_) (fun h16 => ?_)
            ·
              refine T_qB2 (t_X12_meets o 3 hB_o (by omega)) (fun r13 o15 hc_r13 hp17 => ?_)
              replace hp17 : BoxM o15 ∧ (Fr [(0, 0), (1, 9999)] o o15) ∧ (r13 = -3) := hp17
              obtain ⟨hB_o15, fc_o15, hp17⟩ := hp17
              have fr_o15 : Fr [(0, 0), (1, 9999)] o o15 := Fr.tr fr_o fc_o15 rfl
              have g0_32_o15 : o15.1 0 32 = o.1 0 32 := fc_o15.1 0 32 rfl
              refine T_some ?_
              show BoxM o15 ∧ (Fr [(0, 0), (1, 9999)] o o15)
              exact ⟨hB_o15, fr_o15⟩
            ·
              refine T_qEq ⟨by omega, by omega⟩ ⟨by decide, by decide⟩ (fun h18 => ?_) (fun h18 => ?_)
              ·
                refine T_qIn ⟨by omega, by omega⟩ ?_
                refine T_qNm (fun n2 e_n2 => ?_)
                have b_n2 : 0 ≤ n2 ∧ n2 ≤ 64 := by rw [e_n2]; exact bM_30 hB_o _
                refine T_some ?_
                show BoxM o ∧ (Fr [(0, 0), (1, 9999)] o o)
                exact ⟨hB_o, fr_o⟩
              ·
                refine T_qEq ⟨by omega, by omega⟩ ⟨by decide, by decide⟩ (fun h19 => ?_) (fun h19 => ?_)
                ·
                  refine T_qIn ⟨by omega, by omega⟩ ?_
                  refine T_qNm (fun n4 e_n4 => ?_)
                  have b_n4 : 0 ≤ n4 ∧ n4 ≤ 63 := by rw [e_n4]; exact bM_31 hB_o _
                  refine T_some ?_
                  show BoxM o ∧ (Fr [(0, 0), (1, 9999)] o o)
                  exact ⟨hB_o, fr_o⟩
                ·
                  refine T_qEq ⟨by omega, by omega⟩ ⟨by decide, by decide⟩ (fun h20 => ?_) (fun h20 => ?_)
                  ·
                    refine T_qIn ⟨by omega, by omega⟩ ?_
                    refine T_qNm (fun n6 e_n6 => ?_)
                    have b_n6 : 0 ≤ n6 ∧ n6 ≤ 10000000 := by rw [e_n6]; exact bM_32 hB_o _
                    refine T_some ?_
                    show BoxM o ∧ (Fr [(0, 0), (1, 9999)] o o)
                    exact ⟨hB_o, fr_o⟩
                  ·
                    refine T_qEq ⟨by omega, by omega⟩ ⟨by decide, by decide⟩ (fun h21 => ?_) (fun h21 => ?_)
                    ·
                      refine T_qIn ⟨by omega, by omega⟩ ?_
                      refine T_qNm (fun n8 e_n8 => ?_)
                      have b_n8 : 0 ≤ n8 ∧ n8 ≤ 39 := by rw [e_n8]; exact bM_33 hB_o _
                      refine T_some ?_
                      show BoxM o ∧ (Fr [(0, 0), (1, 9999)] o o)
                      exact ⟨hB_o, fr_o⟩
                    ·
                      refine T_qEq ⟨by omega, by omega⟩ ⟨by decide, by decide⟩ (fun h22 => ?_) (fun h22 => ?_)
                      ·
                        refine T_qIn ⟨by omega, by omega⟩ ?_
                        refine T_qNm (fun n10 e_n10 => ?_)
                        have b_n10 : 0 ≤ n10 ∧ n10 ≤ 63 := by rw [e_n10]; exact bM_35 hB_o _
                        refine T_some ?_
                        show BoxM o ∧ (Fr [(0, 0), (1, 9999)] o o)
                        exact ⟨hB_o, fr_o⟩
                      ·
                        refine T_qB (t_X12_couldCome o x1 hB_o (by omega)) (fun r11 hc_r11 hp23 => ?_)
                        replace hp23 : (0 ≤ r11 ∧ r11 ≤ 40) := hp23
                        refine T_some ?_
                        show BoxM o ∧ (Fr [(0, 0), (1, 9999)] o o)
                        exact ⟨hB_o, fr_o⟩
          ·
            unfold b_X12_mark_45
            refine T_qEq ⟨by omega, by omega⟩ ⟨by decide, by decide⟩ (fun h24 => ?_) (fun h24 => ?_)
            ·
              refine T_qIn ⟨by omega, by omega⟩ ?_
              refine T_qNm (fun n17 e_n17 => ?_)
              have b_n17 : 0 ≤ n17 ∧ n17 ≤ 6 := by rw [e_n17]; exact bM_25 hB_o _
              refine T_qEq ⟨by omega, by omega⟩ ⟨by decide, by decide⟩ (fun h25 => ?_) (fun h25 => ?_)
              ·
                unfold b_X12_mark_60
                unfold b_X12_mark_65
                refine T_qEq ⟨by decide, by decide⟩ ⟨by decide, by decide⟩ (fun h26 => ?_) (fun h26 => ?_)
                ·
                  refine T_qB2 (t_X12_meets o 3 hB_o (by omega)) (fun r13 o15 hc_r13 hp27 => ?_)
                  replace hp27 : BoxM o15 ∧ (Fr [(0, 0), (1, 9999)] o o15) ∧ (r13 = -3) := hp27
                  obtain ⟨hB_o15, fc_o15, hp27⟩ := hp27
                  have fr_o15 : Fr [(0, 0), (1, 9999)] o o15 := Fr.tr fr_o fc_o15 rfl
                  have g0_32_o15 : o15.1 0 32 = o.1 0 32 := fc_o15.1 0 32 rfl
                  refine T_some ?_
                  show BoxM o15 ∧ (Fr [(0, 0), (1, 9999)] o o15)
                  exact ⟨hB_o15, fr_o15⟩
                ·
                  refine T_qEq ⟨by omega, by omega⟩ ⟨by decide, by decide⟩ (fun h28 => ?_) (fun h28 => ?_)
                  ·
                    refine T_qIn ⟨by omega, by omega⟩ ?_
                    refine T_qNm (fun n2 e_n2 => ?_)
                    have b_n2 : 0 ≤ n2 ∧ n2 ≤ 64 := by rw [e_n2]; exact bM_30 hB_o _
                    refine T_some ?_
                    show BoxM o ∧ (Fr [(0, 0), (1, 9999)] o o)
                    exact ⟨hB_o, fr_o⟩
                  ·
                    refine T_qEq ⟨by omega, by omega⟩ ⟨by decide, by decide⟩ (fun h29 => ?_) (fun h29 => ?_)
                    ·
                      refine T_qIn ⟨by omega, by omega⟩ ?_
                      refine T_qNm (fun n4 e_n4 => ?_)
                      have b_n4 : 0 ≤ n4 ∧ n4 ≤ 63 := by rw [e_n4]; exact bM_31 hB_o _
                      refine T_some ?_
                      show BoxM o ∧ (Fr [(0, 0), (1, 9999)] o o)
                      exact ⟨hB_o, fr_o⟩
                    ·
                      refine T_qEq ⟨by omega, by omega⟩ ⟨by decide, by decide⟩ (fun h30 => ?_) (fun h30 => ?_)
                      ·
                        refine T_qIn ⟨by omega, by omega⟩ ?_
                        refine T_qNm (fun n6 e_n6 => ?_)
                        have b_n6 : 0 ≤ n6 ∧ n6 ≤ 10000000 := by rw [e_n6]; exact bM_32 hB_o _
                        refine T_some ?_
                        show BoxM o ∧ (Fr [(0, 0), (1, 9999)] o o)
                        exact ⟨hB_o, fr_o⟩
                      ·
                        refine T_qEq ⟨by omega, by omega⟩ ⟨by decide, by decide⟩ (fun h31 => ?_) (fun h31 => ?_)
                        ·
                          refine T_qIn ⟨by omega, by omega⟩ ?_
                          refine T_qNm (fun n8 e_n8 => ?_)
                          have b_n8 : 0 ≤ n8 ∧ n8 ≤ 39 := by rw [e_n8]; exact bM_33 hB_o _
                          refine T_some ?_
                          show BoxM o ∧ (Fr [(0, 0), (1, 9999)] o o)
                          exact ⟨hB_o, fr_o⟩
                        ·
                          refine T_qEq ⟨by omega, by omega⟩ ⟨by decide, by decide⟩ (fun h32 => ?_) (fun h32 => ?_)
                          ·
                            refine T_qIn ⟨by omega, by omega⟩ ?_
                            refine T_qNm (fun n10 e_n10 => ?_)
                            have b_n10 : 0 ≤ n10 ∧ n10 ≤ 63 := by rw [e_n10]; exact bM_35 hB_o _
                            refine T_some ?_
                            show BoxM o ∧ (Fr [(0, 0), (1, 9999)] o o)
                            exact ⟨hB_o, fr_o⟩
                          ·
                            refine T_qB (t_X12_couldCome o x1 hB_o (by omega)) (fun r11 hc_r11 hp33 => ?_)
                            replace hp33 : (0 ≤ r11 ∧ r11 ≤ 40) := hp33
                            refine T_some ?_
                            show BoxM o ∧ (Fr [(0, 0), (1, 9999)] o o)
                            exact ⟨hB_o, fr_o⟩
              ·
                unfold b_X12_mark_64
                unfold b_X12_mark_65
                refine T_qEq ⟨by decide, by decide⟩ ⟨by decide, by decide⟩ (fun h34 => ?_) (fun h34 => ?_)
                ·
                  refine T_qB2 (t_X12_meets o 3 hB_o (by omega)) (fun r13 o15 hc_r13 hp35 => ?_)
                  replace hp35 : BoxM o15 ∧ (Fr [(0, 0), (1, 9999)] o o15) ∧ (r13 = -3) := hp35
                  obtain ⟨hB_o15, fc_o15, hp35⟩ := hp35
                  have fr_o15 : Fr [(0, 0), (1, 9999)] o o15 := Fr.tr fr_o fc_o15 rfl
                  have g0_32_o15 : o15.1 0 32 = o.1 0 32 := fc_o15.1 0 32 rfl
                  refine T_some ?_
                  show BoxM o15 ∧ (Fr [(0, 0), (1, 9999)] o o15)
                  exact ⟨hB_o15, fr_o15⟩
                ·
                  refine T_qEq ⟨by omega, by omega⟩ ⟨by decide, by decide⟩ (fun h36 => ?_) (fun h36 => ?_)
                  ·
                    refine T_qIn ⟨by omega, by omega⟩ ?_
                    refine T_qNm (fun n2 e_n2 => ?_)
                    have b_n2 : 0 ≤ n2 ∧ n2 ≤ 64 := by rw [e_n2]; exact bM_30 hB_o _
                    refine T_some ?_
                    show BoxM o ∧ (Fr [(0, 0), (1, 9999)] o o)
                    exact ⟨hB_o, fr_o⟩
                  ·
                    refine T_qEq ⟨by omega, by omega⟩ ⟨by decide, by decide⟩ (fun h37 => ?_) (fun h37 => ?_)
                    ·
                      refine T_qIn ⟨by omega, by omega⟩ ?_
                      refine T_qNm (fun n4 e_n4 => ?_)
                      have b_n4 : 0 ≤ n4 ∧ n4 ≤ 63 := by rw [e_n4]; exact bM_31 hB_o _
                      refine T_some ?_
                      show BoxM o ∧ (Fr [(0, 0), (1, 9999)] o o)
                      exact ⟨hB_o, fr_o⟩
                    ·
                      refine T_qEq ⟨by omega, by omega⟩ ⟨by decide, by decide⟩ (fun h38 => ?_) (fun h38 => ?_)
                      ·
                        refine T_qIn ⟨by omega, by omega⟩ ?_
                        refine T_qNm (fun n6 e_n6 => ?_)
                        have b_n6 : 0 ≤ n6 ∧ n6 ≤ 10000000 := by rw [e_n6]; exact bM_32 hB_o _
                        refine T_some ?_
                        show BoxM o ∧ (Fr [(0, 0), (1, 9999)] o o)
                        exact ⟨hB_o, fr_o⟩
                      ·
                        refine T_qEq ⟨by omega, by omega⟩ ⟨by decide, by decide⟩ (fun h39 => ?_) (fun h39 => ?_)
                        ·
                          refine T_qIn ⟨by omega, by omega⟩ ?_
                          refine T_qNm (fun n8 e_n8 => ?_)
                          have b_n8 : 0 ≤ n8 ∧ n8 ≤ 39 := by rw [e_n8]; exact bM_33 hB_o _
                          refine T_some ?_
                          show BoxM o ∧ (Fr [(0, 0), (1, 9999)] o o)
                          exact ⟨hB_o, fr_o⟩
                        ·
                          refine T_qEq ⟨by omega, by omega⟩ ⟨by decide, by decide⟩ (fun h40 => ?_) (fun h40 => ?_)
                          ·
                            refine T_qIn ⟨by omega, by omega⟩ ?_
                            refine T_qNm (fun n10 e_n10 => ?_)
                            have b_n10 : 0 ≤ n10 ∧ n10 ≤ 63 := by rw [e_n10]; exact bM_35 hB_o _
                            refine T_some ?_
                            show BoxM o ∧ (Fr [(0, 0), (1, 9999)] o o)
                            exact ⟨hB_o, fr_o⟩
                          ·
                            refine T_qB (t_X12_couldCome o x1 hB_o (by omega)) (fun r11 hc_r11 hp41 => ?_)
                            replace hp41 : (0 ≤ r11 ∧ r11 ≤ 40) := hp41
                            refine T_some ?_
                            show BoxM o ∧ (Fr [(0, 0), (1, 9999)] o o)
                            exact ⟨hB_o, fr_o⟩
            ·
              unfold b_X12_mark_64
              unfold b_X12_mark_65
              refine T_qEq ⟨by decide, by decide⟩ ⟨by decide, by decide⟩ (fun h42 => ?_) (fun h42 => ?_)
              ·
                refine T_qB2 (t_X12_meets o 3 hB_o (by omega)) (fun r13 o15 hc_r13 hp43 => ?_)
                replace hp43 : BoxM o15 ∧ (Fr [(0, 0), (1, 9999)] o o15) ∧ (r13 = -3) := hp43
                obtain ⟨hB_o15, fc_o15, hp43⟩ := hp43
                have fr_o15 : Fr [(0, 0), (1, 9999)] o o15 := Fr.tr fr_o fc_o15 rfl
                have g0_32_o15 : o15.1 0 32 = o.1 0 32 := fc_o15.1 0 32 rfl
                refine T_some ?_
                show BoxM o15 ∧ (Fr [(0, 0), (1, 9999)] o o15)
                exact ⟨hB_o15, fr_o15⟩
              ·
                refine T_qEq ⟨by omega, by omega⟩ ⟨by decide, by decide⟩ (fun h44 => ?_) (fun h44 => ?_)
                ·
                  refine T_qIn ⟨by omega, by omega⟩ ?_
                  refine T_qNm (fun n2 e_n2 => ?_)
                  have b_n2 : 0 ≤ n2 ∧ n2 ≤ 64 := by rw [e_n2]; exact bM_30 hB_o _
                  refine T_some ?_
                  show BoxM o ∧ (Fr [(0, 0), (1, 9999)] o o)
                  exact ⟨hB_o, fr_o⟩
                ·
                  refine T_qEq ⟨by omega, by omega⟩ ⟨by decide, by decide⟩ (fun h45 => ?_) (fun h45 => ?_)
                  ·
                    refine T_qIn ⟨by omega, by omega⟩ ?_
                    refine T_qNm (fun n4 e_n4 => ?_)
                    have b_n4 : 0 ≤ n4 ∧ n4 ≤ 63 := by rw [e_n4]; exact bM_31 hB_o _
                    refine T_some ?_
                    show BoxM o ∧ (Fr [(0, 0), (1, 9999)] o o)
                    exact ⟨hB_o, fr_o⟩
                  ·
                    refine T_qEq ⟨by omega, by omega⟩ ⟨by decide, by decide⟩ (fun h46 => ?_) (fun h46 => ?_)
                    ·
                      refine T_qIn ⟨by omega, by omega⟩ ?_
                      refine T_qNm (fun n6 e_n6 => ?_)
                      have b_n6 : 0 ≤ n6 ∧ n6 ≤ 10000000 := by rw [e_n6]; exact bM_32 hB_o _
                      refine T_some ?_
                      show BoxM o ∧ (Fr [(0, 0), (1, 9999)] o o)
                      exact ⟨hB_o, fr_o⟩
                    ·
                      refine T_qEq ⟨by omega, by omega⟩ ⟨by decide, by decide⟩ (fun h47 => ?_) (fun h47 => ?_)
                      ·
                        refine T_qIn ⟨by omega, by omega⟩ ?_
                        refine T_qNm (fun n8 e_n8 => ?_)
                        have b_n8 : 0 ≤ n8 ∧ n8 ≤ 39 := by rw [e_n8]; exact bM_33 hB_o _
                        refine T_some ?_
                        show BoxM o ∧ (Fr [(0, 0), (1, 9999)] o o)
                        exact ⟨hB_o, fr_o⟩
                      ·
                        refine T_qEq ⟨by omega, by omega⟩ ⟨by decide, by decide⟩ (fun h48 => ?_) (fun h48 => ?_)
                        ·
                          refine T_qIn ⟨by omega, by omega⟩ ?_
                          refine T_qNm (fun n10 e_n10 => ?_)
                          have b_n10 : 0 ≤ n10 ∧ n10 ≤ 63 := by rw [e_n10]; exact bM_35 hB_o _
                          refine T_some ?_
                          show BoxM o ∧ (Fr [(0, 0), (1, 9999)] o o)
                          exact ⟨hB_o, fr_o⟩
                        ·
                          refine T_qB (t_X12_couldCome o x1 hB_o (by omega)) (fun r11 hc_r11 hp49 => ?_)
                          replace hp49 : (0 ≤ r11 ∧ r11 ≤ 40) := hp49
                          refine T_some ?_
                          show BoxM o ∧ (Fr [(0, 0), (1, 9999)] o o)
                          exact ⟨hB_o, fr_o⟩
        ·
          unfold b_X12_mark_45
          refine T_qEq ⟨by omega, by omega⟩ ⟨by decide, by decide⟩ (fun h50 => ?_) (fun h50 => ?_)
          ·
            refine T_qIn ⟨by omega, by omega⟩ ?_
            refine T_qNm (fun n17 e_n17 => ?_)
            have b_n17 : 0 ≤ n17 ∧ n17 ≤ 6 := by rw [e_n17]; exact bM_25 hB_o _
            refine T_qEq ⟨by omega, by omega⟩ ⟨by decide, by decide⟩ (fun h51 => ?_) (fun h51 => ?_)
            ·
              unfold b_X12_mark_60
              unfold b_X12_mark_65
              refine T_qEq ⟨by decide, by decide⟩ ⟨by decide, by decide⟩ (fun h52 => ?_) (fun h52 => ?_)
              ·
                refine T_qB2 (t_X12_meets o 3 hB_o (by omega)) (fun r13 o15 hc_r13 hp53 => ?_)
                replace hp53 : BoxM o15 ∧ (Fr [(0, 0), (1, 9999)] o o15) ∧ (r13 = -3) := hp53
                obtain ⟨hB_o15, fc_o15, hp53⟩ := hp53
                have fr_o15 : Fr [(0, 0), (1, 9999)] o o15 := Fr.tr fr_o fc_o15 rfl
                have g0_32_o15 : o15.1 0 32 = o.1 0 32 := fc_o15.1 0 32 rfl
                refine T_some ?_
                show BoxM o15 ∧ (Fr [(0, 0), (1, 9999)] o o15)
                exact ⟨hB_o15, fr_o15⟩
              ·
                refine T_qEq ⟨by omega, by omega⟩ ⟨by decide, by decide⟩ (fun h54 => ?_) (fun h54 => ?_)
                ·
                  refine T_qIn ⟨by omega, by omega⟩ ?_
                  refine T_qNm (fun n2 e_n2 => ?_)
                  have b_n2 : 0 ≤ n2 ∧ n2 ≤ 64 := by rw [e_n2]; exact bM_30 hB_o _
                  refine T_some ?_
                  show BoxM o ∧ (Fr [(0, 0), (1, 9999)] o o)
                  exact ⟨hB_o, fr_o⟩
                ·
                  refine T_qEq ⟨by omega, by omega⟩ ⟨by decide, by decide⟩ (fun h55 => ?_) (fun h55 => ?_)
                  ·
                    refine T_qIn ⟨by omega, by omega⟩ ?_
                    refine T_qNm (fun n4 e_n4 => ?_)
                    have b_n4 : 0 ≤ n4 ∧ n4 ≤ 63 := by rw [e_n4]; exact bM_31 hB_o _
                    refine T_some ?_
                    show BoxM o ∧ (Fr [(0, 0), (1, 9999)] o o)
                    exact ⟨hB_o, fr_o⟩
                  ·
                    refine T_qEq ⟨by omega, by omega⟩ ⟨by decide, by decide⟩ (fun h56 => ?_) (fun h56 => ?_)
                    ·
                      refine T_qIn ⟨by omega, by omega⟩ ?_
                      refine T_qNm (fun n6 e_n6 => ?_)
                      have b_n6 : 0 ≤ n6 ∧ n6 ≤ 10000000 := by rw [e_n6]; exact bM_32 hB_o _
                      refine T_some ?_
                      show BoxM o ∧ (Fr [(0, 0), (1, 9999)] o o)
                      exact ⟨hB_o, fr_o⟩
                    ·
                      refine T_qEq ⟨by omega, by omega⟩ ⟨by decide, by decide⟩ (fun h57 => ?_) (fun h57 => ?_)
                      ·
                        refine T_qIn ⟨by omega, by omega⟩ ?_
                        refine T_qNm (fun n8 e_n8 => ?_)
                        have b_n8 : 0 ≤ n8 ∧ n8 ≤ 39 := by rw [e_n8]; exact bM_33 hB_o _
                        refine T_some ?_
                        show BoxM o ∧ (Fr [(0, 0), (1, 9999)] o o)
                        exact ⟨hB_o, fr_o⟩
                      ·
                        refine T_qEq ⟨by omega, by omega⟩ ⟨by decide, by decide⟩ (fun h58 => ?_) (fun h58 => ?_)
                        ·
                          refine T_qIn ⟨by omega, by omega⟩ ?_
                          refine T_qNm (fun n10 e_n10 => ?_)
                          have b_n10 : 0 ≤ n10 ∧ n10 ≤ 63 := by rw [e_n10]; exact bM_35 hB_o _
                          refine T_some ?_
                          show BoxM o ∧ (Fr [(0, 0), (1, 9999)] o o)
                          exact ⟨hB_o, fr_o⟩
                        ·
                          refine T_qB (t_X12_couldCome o x1 hB_o (by omega)) (fun r11 hc_r11 hp59 => ?_)
                          replace hp59 : (0 ≤ r11 ∧ r11 ≤ 40) := hp59
                          refine T_some ?_
                          show BoxM o ∧ (Fr [(0, 0), (1, 9999)] o o)
                          exact ⟨hB_o, fr_o⟩
            ·
              unfold b_X12_mark_64
              unfold b_X12_mark_65
              refine T_qEq ⟨by decide, by decide⟩ ⟨by decide, by decide⟩ (fun h60 => ?_) (fun h60 => ?_)
              ·
                refine T_qB2 (t_X12_meets o 3 hB_o (by omega)) (fun r13 o15 hc_r13 hp61 => ?_)
                replace hp61 : BoxM o15 ∧ (Fr [(0, 0), (1, 9999)] o o15) ∧ (r13 = -3) := hp61
                obtain ⟨hB_o15, fc_o15, hp61⟩ := hp61
                have fr_o15 : Fr [(0, 0), (1, 9999)] o o15 := Fr.tr fr_o fc_o15 rfl
                have g0_32_o15 : o15.1 0 32 = o.1 0 32 := fc_o15.1 0 32 rfl
                refine T_some ?_
                show BoxM o15 ∧ (Fr [(0, 0), (1, 9999)] o o15)
                exact ⟨hB_o15, fr_o15⟩
              ·
                refine T_qEq ⟨by omega, by omega⟩ ⟨by decide, by decide⟩ (fun h62 => ?_) (fun h62 => ?_)
                ·
                  refine T_qIn ⟨by omega, by omega⟩ ?_
                  refine T_qNm (fun n2 e_n2 => ?_)
                  have b_n2 : 0 ≤ n2 ∧ n2 ≤ 64 := by rw [e_n2]; exact bM_30 hB_o _
                  refine T_some ?_
                  show BoxM o ∧ (Fr [(0, 0), (1, 9999)] o o)
                  exact ⟨hB_o, fr_o⟩
                ·
                  refine T_qEq ⟨by omega, by omega⟩ ⟨by decide, by decide⟩ (fun h63 => ?_) (fun h63 => ?_)
                  ·
                    refine T_qIn ⟨by omega, by omega⟩ ?_
                    refine T_qNm (fun n4 e_n4 => ?_)
                    have b_n4 : 0 ≤ n4 ∧ n4 ≤ 63 := by rw [e_n4]; exact bM_31 hB_o _
                    refine T_some ?_
                    show BoxM o ∧ (Fr [(0, 0), (1, 9999)] o o)
                    exact ⟨hB_o, fr_o⟩
                  ·
                    refine T_qEq ⟨by omega, by omega⟩ ⟨by decide, by decide⟩ (fun h64 => ?_) (fun h64 => ?_)
                    ·
                      refine T_qIn ⟨by omega, by omega⟩ ?_
                      refine T_qNm (fun n6 e_n6 => ?_)
                      have b_n6 : 0 ≤ n6 ∧ n6 ≤ 10000000 := by rw [e_n6]; exact bM_32 hB_o _
                      refine T_some ?_
                      show BoxM o ∧ (Fr [(0, 0), (1, 9999)] o o)
                      exact ⟨hB_o, fr_o⟩
                    ·
                      refine T_qEq ⟨by omega, by omega⟩ ⟨by decide, by decide⟩ (fun h65 => ?_) (fun h65 => ?_)
                      ·
                        refine T_qIn ⟨by omega, by omega⟩ ?_
                        refine T_qNm (fun n8 e_n8 => ?_)
                        have b_n8 : 0 ≤ n8 ∧ n8 ≤ 39 := by rw [e_n8]; exact bM_33 hB_o _
                        refine T_some ?_
                        show BoxM o ∧ (Fr [(0, 0), (1, 9999)] o o)
                        exact ⟨hB_o, fr_o⟩
                      ·
                        refine T_qEq ⟨by omega, by omega⟩ ⟨by decide, by decide⟩ (fun h66 => ?_) (fun h66 => ?_)
                        ·
                          refine T_qIn ⟨by omega, by omega⟩ ?_
                          refine T_qNm (fun n10 e_n10 => ?_)
                          have b_n10 : 0 ≤ n10 ∧ n10 ≤ 63 := by rw [e_n10]; exact bM_35 hB_o _
                          refine T_some ?_
                          show BoxM o ∧ (Fr [(0, 0), (1, 9999)] o o)
                          exact ⟨hB_o, fr_o⟩
                        ·
                          refine T_qB (t_X12_couldCome o x1 hB_o (by omega)) (fun r11 hc_r11 hp67 => ?_)
                          replace hp67 : (0 ≤ r11 ∧ r11 ≤ 40) := hp67
                          refine T_some ?_
                          show BoxM o ∧ (Fr [(0, 0), (1, 9999)] o o)
                          exact ⟨hB_o, fr_o⟩
          ·
            unfold b_X12_mark_64
            unfold b_X12_mark_65
            refine T_qEq ⟨by decide, by decide⟩ ⟨by decide, by decide⟩ (fun h68 => ?_) (fun h68 => ?_)
            ·
              refine T_qB2 (t_X12_meets o 3 hB_o (by omega)) (fun r13 o15 hc_r13 hp69 => ?_)
              replace hp69 : BoxM o15 ∧ (Fr [(0, 0), (1, 9999)] o o15) ∧ (r13 = -3) := hp69
              obtain ⟨hB_o15, fc_o15, hp69⟩ := hp69
              have fr_o15 : Fr [(0, 0), (1, 9999)] o o15 := Fr.tr fr_o fc_o15 rfl
              have g0_32_o15 : o15.1 0 32 = o.1 0 32 := fc_o15.1 0 32 rfl
              refine T_some ?_
              show BoxM o15 ∧ (Fr [(0, 0), (1, 9999)] o o15)
              exact ⟨hB_o15, fr_o15⟩
            ·
              refine T_qEq ⟨by omega, by omega⟩ ⟨by decide, by decide⟩ (fun h70 => ?_) (fun h70 => ?_)
              ·
                refine T_qIn ⟨by omega, by omega⟩ ?_
                refine T_qNm (fun n2 e_n2 => ?_)
                have b_n2 : 0 ≤ n2 ∧ n2 ≤ 64 := by rw [e_n2]; exact bM_30 hB_o _
                refine T_some ?_
                show BoxM o ∧ (Fr [(0, 0), (1, 9999)] o o)
                exact ⟨hB_o, fr_o⟩
              ·
                refine T_qEq ⟨by omega, by omega⟩ ⟨by decide, by decide⟩ (fun h71 => ?_) (fun h71 => ?_)
                ·
                  refine T_qIn ⟨by omega, by omega⟩ ?_
                  refine T_qNm (fun n4 e_n4 => ?_)
                  have b_n4 : 0 ≤ n4 ∧ n4 ≤ 63 := by rw [e_n4]; exact bM_31 hB_o _
                  refine T_some ?_
                  show BoxM o ∧ (Fr [(0, 0), (1, 9999)] o o)
                  exact ⟨hB_o, fr_o⟩
                ·
                  refine T_qEq ⟨by omega, by omega⟩ ⟨by decide, by decide⟩ (fun h72 => ?_) (fun h72 => ?_)
                  ·
                    refine T_qIn ⟨by omega, by omega⟩ ?_
                    refine T_qNm (fun n6 e_n6 => ?_)
                    have b_n6 : 0 ≤ n6 ∧ n6 ≤ 10000000 := by rw [e_n6]; exact bM_32 hB_o _
                    refine T_some ?_
                    show BoxM o ∧ (Fr [(0, 0), (1, 9999)] o o)
                    exact ⟨hB_o, fr_o⟩
                  ·
                    refine T_qEq ⟨by omega, by omega⟩ ⟨by decide, by decide⟩ (fun h73 => ?_) (fun h73 => ?_)
                    ·
                      refine T_qIn ⟨by omega, by omega⟩ ?_
                      refine T_qNm (fun n8 e_n8 => ?_)
                      have b_n8 : 0 ≤ n8 ∧ n8 ≤ 39 := by rw [e_n8]; exact bM_33 hB_o _
                      refine T_some ?_
                      show BoxM o ∧ (Fr [(0, 0), (1, 9999)] o o)
                      exact ⟨hB_o, fr_o⟩
                    ·
                      refine T_qEq ⟨by omega, by omega⟩ ⟨by decide, by decide⟩ (fun h74 => ?_) (fun h74 => ?_)
                      ·
                        refine T_qIn ⟨by omega, by omega⟩ ?_
                        refine T_qNm (fun n10 e_n10 => ?_)
                        have b_n10 : 0 ≤ n10 ∧ n10 ≤ 63 := by rw [e_n10]; exact bM_35 hB_o _
                        refine T_some ?_
                        show BoxM o ∧ (Fr [(0, 0), (1, 9999)] o o)
                        exact ⟨hB_o, fr_o⟩
                      ·
                        refine T_qB (t_X12_couldCome o x1 hB_o (by omega)) (fun r11 hc_r11 hp75 => ?_)
                        replace hp75 : (0 ≤ r11 ∧ r11 ≤ 40) := hp75
                        refine T_some ?_
                        show BoxM o ∧ (Fr [(0, 0), (1, 9999)] o o)
                        exact ⟨hB_o, fr_o⟩
set_option maxRecDepth 20000 in
set_option maxHeartbeats 4000000 in
theorem tl_X12_mean_18 (o : OO) (x1 : Int) (i_x2 : Int) (i_x3 : Int) (i_x4 : Int) (hB_o : BoxM o) (k0 : inR x1) (v0 : 0 ≤ i_x2 ∧ i_x2 ≤ i_x4) (v1 : 0 ≤ i_x4 ∧ i_x4 ≤ o.1 0 17) (v2 : -9 * i_x4 ≤ i_x3 ∧ i_x3 ≤ 100000 * i_x4) : T (loopW (fun s => l_X12_mean_18 o x1 s.1 s.2.1 s.2.2) (i_x2, i_x3, i_x4)) (fun r => (0 ≤ r.1 ∧ r.1 ≤ o.1 0 17) ∧ (-300 ≤ r.2 ∧ r.2 ≤ 3200000)) := by
  refine T_loop (fun s => (0 ≤ s.1 ∧ s.1 ≤ s.2.2) ∧ (0 ≤ s.2.2 ∧ s.2.2 ≤ o.1 0 17) ∧ (-9 * s.2.2 ≤ s.2.1 ∧ s.2.1 ≤ 100000 * s.2.2)) (fun s => (o.1 0 17 - s.2.2).toNat) ⟨v0, v1, v2⟩ (fun s hs => ?_)
  obtain ⟨x2, x3, x4⟩ := s
  replace hs : (0 ≤ x2 ∧ x2 ≤ x4) ∧ (0 ≤ x4 ∧ x4 ≤ o.1 0 17) ∧ (-9 * x4 ≤ x3 ∧ x3 ≤ 100000 * x4) := hs
  obtain ⟨w0, w1, w2⟩ := hs
  have g0_4_o := bM_0_4 hB_o
  have g0_17_o := bM_0_17 hB_o
  show T (l_X12_mean_18 o x1 x2 x3 x4) _
  unfold l_X12_mean_18
  refine T_qLt ⟨by omega, by omega⟩ ⟨by omega, by omega⟩ (fun h1 => ?_) (fun h1 => ?_)
  ·
    refine T_qIn ⟨by omega, by omega⟩ ?_
    refine T_qNm (fun n13 e_n13 => ?_)
    have b_n13 : 0 ≤ n13 ∧ n13 ≤ 2 := by rw [e_n13]; exact bM_14 hB_o _
    refine T_qEq ⟨by omega, by omega⟩ ⟨by omega, by omega⟩ (fun h2 => ?_) (fun h2 => ?_)
    ·
      refine T_qIn ⟨by omega, by omega⟩ ?_
      refine T_qNm (fun n15 e_n15 => ?_)
      have b_n15 : 0 ≤ n15 ∧ n15 ≤ 1 := by rw [e_n15]; exact bM_16 hB_o _
      refine T_qEq ⟨by omega, by omega⟩ ⟨by decide, by decide⟩ (fun h3 => ?_) (fun h3 => ?_)
      ·
        unfold b_X12_mean_53
        refine T_qEq ⟨by decide, by decide⟩ ⟨by decide, by decide⟩ (fun h4 => ?_) (fun h4 => ?_)
        ·
          unfold b_X12_mean_66
          refine T_qNm (fun n9 e_n9 => ?_)
          refine T_qEq ⟨by decide, by decide⟩ ⟨by decide, by decide⟩ (fun h5 => ?_) (fun h5 => ?_)
          ·
            unfold b_X12_mean_88
            refine T_qNm (fun n8 e_n8 => ?_)
            refine T_some ?_
            show ((0 ≤ n9 ∧ n9 ≤ (x4 + 1)) ∧ (0 ≤ (x4 + 1) ∧ (x4 + 1) ≤ o.1 0 17) ∧ (-9 * (x4 + 1) ≤ n8 ∧ n8 ≤ 100000 * (x4 + 1))) ∧ (o.1 0 17 - (x4 + 1)).toNat < (o.1 0 17 - x4).toNat
            exact ⟨⟨(by omega), (by omega), (by omega)⟩, by omega⟩
          ·
            refine T_qB (t_X12_valueOf o x4 (o.1 0 4) hB_o (by omega) (by omega)) (fun r10 hc_r10 hp6 => ?_)
            replace hp6 : (-9 ≤ r10 ∧ r10 ≤ 100000) ∧ (r10 = -9 ∨ 0 ≤ r10) := hp6
            have hps_hp6 := hp6
            obtain ⟨hp6_0, hp6_1⟩ := hps_hp6
            replace hp6 := hid hp6
            unfold b_X12_mean_88
            refine T_qNm (fun n8 e_n8 => ?_)
            refine T_some ?_
            show ((0 ≤ n9 ∧ n9 ≤ (x4 + 1)) ∧ (0 ≤ (x4 + 1) ∧ (x4 + 1) ≤ o.1 0 17) ∧ (-9 * (x4 + 1) ≤ n8 ∧ n8 ≤ 100000 * (x4 + 1))) ∧ (o.1 0 17 - (x4 + 1)).toNat < (o.1 0 17 - x4).toNat
            exact ⟨⟨(by omega), (by omega), (by omega)⟩, by omega⟩
        ·
          unfold b_X12_mean_66
          refine T_qNm (fun n9 e_n9 => ?_)
          refine T_qEq ⟨by decide, by decide⟩ ⟨by decide, by decide⟩ (fun h7 => ?_) (fun h7 => ?_)
          ·
            unfold b_X12_mean_88
            refine T_qNm (fun n8 e_n8 => ?_)
            refine T_some ?_
            show ((0 ≤ n9 ∧ n9 ≤ (x4 + 1)) ∧ (0 ≤ (x4 + 1) ∧ (x4 + 1) ≤ o.1 0 17) ∧ (-9 * (x4 + 1) ≤ n8 ∧ n8 ≤ 100000 * (x4 + 1))) ∧ (o.1 0 17 - (x4 + 1)).toNat < (o.1 0 17 - x4).toNat
            exact ⟨⟨(by omega), (by omega), (by omega)⟩, by omega⟩
          ·
            refine T_qB (t_X12_valueOf o x4 (o.1 0 4) hB_o (by omega) (by omega)) (fun r10 hc_r10 hp8 => ?_)
            replace hp8 : (-9 ≤ r10 ∧ r10 ≤ 100000) ∧ (r10 = -9 ∨ 0 ≤ r10) := hp8
            have hps_hp8 := hp8
            obtain ⟨hp8_0, hp8_1⟩ := hps_hp8
            replace hp8 := hid hp8
            unfold b_X12_mean_88
            refine T_qNm (fun n8 e_n8 => ?_)
            refine T_some ?_
            show ((0 ≤ n9 ∧ n9 ≤ (x4 + 1)) ∧ (0 ≤ (x4 + 1) ∧ (x4 + 1) ≤ o.1 0 17) ∧ (-9 * (x4 + 1) ≤ n8 ∧ n8 ≤ 100000 * (x4 + 1))) ∧ (o.1 0 17 - (x4 + 1)).toNat < (o.1 0 17 - x4).toNat
            exact ⟨⟨(by omega), (by omega), (by omega)⟩, by omega⟩
      ·
        unfold b_X12_mean_52
        unfold b_X12_mean_53
        refine T_qEq ⟨by decide, by decide⟩ ⟨by decide, by decide⟩ (fun h9 => ?_) (fun h9 => ?_)
        ·
          unfold b_X12_mean_66
          refine T_qNm (fun n9 e_n9 => ?_)
          refine T_qEq ⟨by decide, by decide⟩ ⟨by decide, by decide⟩ (fun h10 => ?_) (fun h10 => ?_)
          ·
            unfold b_X12_mean_88
            refine T_qNm (fun n8 e_n8 => ?_)
            refine T_some ?_
            show ((0 ≤ n9 ∧ n9 ≤ (x4 + 1)) ∧ (0 ≤ (x4 + 1) ∧ (x4 + 1) ≤ o.1 0 17) ∧ (-9 * (x4 + 1) ≤ n8 ∧ n8 ≤ 100000 * (x4 + 1))) ∧ (o.1 0 17 - (x4 + 1)).toNat < (o.1 0 17 - x4).toNat
            exact ⟨⟨(by omega), (by omega), (by omega)⟩, by omega⟩
          ·
            refine T_qB (t_X12_valueOf o x4 (o.1 0 4) hB_o (by omega) (by omega)) (fun r10 hc_r10 hp11 => ?_)
            replace hp11 : (-9 ≤ r10 ∧ r10 ≤ 100000) ∧ (r10 = -9 ∨ 0 ≤ r10) := hp11
            have hps_hp11 := hp11
            obtain ⟨hp11_0, hp11_1⟩ := hps_hp11
            replace hp11 := hid hp11
            unfold b_X12_mean_88
            refine T_qNm (fun n8 e_n8 => ?_)
            refine T_some ?_
            show ((0 ≤ n9 ∧ n9 ≤ (x4 + 1)) ∧ (0 ≤ (x4 + 1) ∧ (x4 + 1) ≤ o.1 0 17) ∧ (-9 * (x4 + 1) ≤ n8 ∧ n8 ≤ 100000 * (x4 + 1))) ∧ (o.1 0 17 - (x4 + 1)).toNat < (o.1 0 17 - x4).toNat
            exact ⟨⟨(by omega), (by omega), (by omega)⟩, by omega⟩
        ·
          unfold b_X12_mean_66
          refine T_qNm (fun n9 e_n9 => ?_)
          refine T_qEq ⟨by decide, by decide⟩ ⟨by decide, by decide⟩ (fun h12 => ?_) (fun h12 => ?_)
          ·
            unfold b_X12_mean_88
            refine T_qNm (fun n8 e_n8 => ?_)
            refine T_some ?_
            show ((0 ≤ n9 ∧ n9 ≤ (x4 + 1)) ∧ (0 ≤ (x4 + 1) ∧ (x4 + 1) ≤ o.1 0 17) ∧ (-9 * (x4 + 1) ≤ n8 ∧ n8 ≤ 100000 * (x4 + 1))) ∧ (o.1 0 17 - (x4 + 1)).toNat < (o.1 0 17 - x4).toNat
            exact ⟨⟨(by omega), (by omega), (by omega)⟩, by omega⟩
          ·
            refine T_qB (t_X12_valueOf o x4 (o.1 0 4) hB_o (by omega) (by omega)) (fun r10 hc_r10 hp13 => ?_)
            replace hp13 : (-9 ≤ r10 ∧ r10 ≤ 100000) ∧ (r10 = -9 ∨ 0 ≤ r10) := hp13
            have hps_hp13 := hp13
            obtain ⟨hp13_0, hp13_1⟩ := hps_hp13
            replace hp13 := hid hp13
            unfold b_X12_mean_88
            refine T_qNm (fun n8 e_n8 => ?_)
            refine T_some ?_
            show ((0 ≤ n9 ∧ n9 ≤ (x4 + 1)) ∧ (0 ≤ (x4 + 1) ∧ (x4 + 1) ≤ o.1 0 17) ∧ (-9 * (x4 + 1) ≤ n8 ∧ n8 ≤ 100000 * (x4 + 1))) ∧ (o.1 0 17 - (x4 + 1)).toNat < (o.1 0 17 - x4).toNat
            exact ⟨⟨(by omega), (by omega), (by omega)⟩, by omega⟩
    ·
      unfold b_X12_mean_52
      unfold b_X12_mean_53
      refine T_qEq ⟨by decide, by decide⟩ ⟨by decide, by decide⟩ (fun h14 => ?_) (fun h14 => ?_)
      ·
        unfold b_X12_mean_66
        refine T_qNm (fun n9 e_n9 => ?_)
        refine T_qEq ⟨by decide, by decide⟩ ⟨by decide, by decide⟩ (fun h15 => ?_) (fun h15 => ?_)
        ·
          unfold b_X12_mean_88
          refine T_qNm (fun n8 e_n8 => ?_)
          refine T_some ?_
          show ((0 ≤ n9 ∧ n9 ≤ (x4 + 1)) ∧ (0 ≤ (x4 + 1) ∧ (x4 + 1) ≤ o.1 0 17) ∧ (-9 * (x4 + 1) ≤ n8 ∧ n8 ≤ 100000 * (x4 + 1))) ∧ (o.1 0 17 - (x4 + 1)).toNat < (o.1 0 17 - x4).toNat
          exact ⟨⟨(by omega), (by omega), (by omega)⟩, by omega⟩
        ·
          refine T_qB (t_X12_valueOf o x4 (o.1 0 4) hB_o (by omega) (by omega)) (fun r10 hc_r10 hp16 => ?_)
          replace hp16 : (-9 ≤ r10 ∧ r10 ≤ 100000) ∧ (r10 = -9 ∨ 0 ≤ r10) := hp16
          have hps_hp16 := hp16
          obtain ⟨hp16_0, hp16_1⟩ := hps_hp16
          replace hp16 := hid hp16
          unfold b_X12_mean_88
          refine T_qNm (fun n8 e_n8 => ?_)
          refine T_some ?_
          show ((0 ≤ n9 ∧ n9 ≤ (x4 + 1)) ∧ (0 ≤ (x4 + 1) ∧ (x4 + 1) ≤ o.1 0 17) ∧ (-9 * (x4 + 1) ≤ n8 ∧ n8 ≤ 100000 * (x4 + 1))) ∧ (o.1 0 17 - (x4 + 1)).toNat < (o.1 0 17 - x4).toNat
          exact ⟨⟨(by omega), (by omega), (by omega)⟩, by omega⟩
      ·
        unfold b_X12_mean_66
        refine T_qNm (fun n9 e_n9 => ?_)
        refine T_qEq ⟨by decide, by decide⟩ ⟨by decide, by decide⟩ (fun h17 => ?_) (fun h17 => ?_)
        ·
          unfold b_X12_mean_88
          refine T_qNm (fun n8 e_n8 => ?_)
          refine T_some ?_
          show ((0 ≤ n9 ∧ n9 ≤ (x4 + 1)) ∧ (0 ≤ (x4 + 1) ∧ (x4 + 1) ≤ o.1 0 17) ∧ (-9 * (x4 + 1) ≤ n8 ∧ n8 ≤ 100000 * (x4 + 1))) ∧ (o.1 0 17 - (x4 + 1)).toNat < (o.1 0 17 - x4).toNat
          exact ⟨⟨(by omega), (by omega), (by omega)⟩, by omega⟩
        ·
          refine T_qB (t_X12_valueOf o x4 (o.1 0 4) hB_o (by omega) (by omega)) (fun r10 hc_r10 hp18 => ?_)
          replace hp18 : (-9 ≤ r10 ∧ r10 ≤ 100000) ∧ (r10 = -9 ∨ 0 ≤ r10) := hp18
          have hps_hp18 := hp18
          obtain ⟨hp18_0, hp18_1⟩ := hps_hp18
          replace hp18 := hid hp18
          unfold b_X12_mean_88
          refine T_qNm (fun n8 e_n8 => ?_)
          refine T_some ?_
          show ((0 ≤ n9 ∧ n9 ≤ (x4 + 1)) ∧ (0 ≤ (x4 + 1) ∧ (x4 + 1) ≤ o.1 0 17) ∧ (-9 * (x4 + 1) ≤ n8 ∧ n8 ≤ 100000 * (x4 + 1))) ∧ (o.1 0 17 - (x4 + 1)).toNat < (o.1 0 17 - x4).toNat
          exact ⟨⟨(by omega), (by omega), (by omega)⟩, by omega⟩
  ·
    refine T_some ?_
    show (0 ≤ x2 ∧ x2 ≤ o.1 0 17) ∧ (-300 ≤ x3 ∧ x3 ≤ 3200000)
    exact ⟨(by omega), (by omega)⟩
set_option maxRecDepth 20000 in
set_option maxHeartbeats 4000000 in
theorem t_X12_mean (o : OO) (x1 : Int) (hB_o : BoxM o) (k0 : inR x1) : T (s_X12_mean o x1) (fun v => BoxM v.2 ∧ (Fr [(0, 0), (0, 2), (1, 9999)] o v.2)) := by
  have fr_o : Fr [(0, 0), (0, 2), (1, 9999)] o o := Fr.rf
  have g0_4_o := bM_0_4 hB_o
  have g0_17_o := bM_0_17 hB_o
  unfold s_X12_mean
  refine T_qB (t_X12_in x1 0 2 (by omega) (by omega) (by omega)) (fun r16 hc_r16 hp19 => ?_)
  replace hp19 : ((r16 = 1 ∧ 0 ≤ x1 ∧ x1 ≤ 2) ∨ (r16 = 0 ∧ (x1 < 0 ∨ 2 < x1))) := hp19
  refine T_qEq ⟨by omega, by omega⟩ ⟨by decide, by decide⟩ (fun h20 => ?_) (fun h20 => ?_)
  ·
    refine T_some ?_
    show BoxM o ∧ (Fr [(0, 0), (0, 2), (1, 9999)] o o)
    exact ⟨hB_o, fr_o⟩
  ·
    unfold e_X12_mean_18
    refine T_qB (tl_X12_mean_18 o x1 0 0 0 hB_o (by omega) (by omega) (by omega) (by omega)) (fun r21 hc_r21 hp22 => ?_)
    obtain ⟨x2_23, x3_24⟩ := r21
    replace hp22 : (0 ≤ x2_23 ∧ x2_23 ≤ o.1 0 17) ∧ (-300 ≤ x3_24 ∧ x3_24 ≤ 3200000) := hp22
    have hps_hp22 := hp22
    obtain ⟨hp22_0, hp22_1⟩ := hps_hp22
    replace hp22 := hid hp22
    show T (b_X12_mean_96 o x2_23 x3_24) _
    unfold b_X12_mean_96
    refine T_qEq ⟨by omega, by omega⟩ ⟨by decide, by decide⟩ (fun h25 => ?_) (fun h25 => ?_)
    ·
      refine T_qB2 (t_X12_meets o 4 hB_o (by omega)) (fun r5 o7 hc_r5 hp26 => ?_)
      replace hp26 : BoxM o7 ∧ (Fr [(0, 0), (1, 9999)] o o7) ∧ (r5 = -3) := hp26
      obtain ⟨hB_o7, fc_o7, hp26⟩ := hp26
      have fr_o7 : Fr [(0, 0), (0, 2), (1, 9999)] o o7 := Fr.tr fr_o fc_o7 rfl
      have g0_4_o7 : o7.1 0 4 = o.1 0 4 := fc_o7.1 0 4 rfl
      have g0_17_o7 : o7.1 0 17 = o.1 0 17 := fc_o7.1 0 17 rfl
      unfold b_X12_mean_116
      refine T_some ?_
      show BoxM o7 ∧ (Fr [(0, 0), (0, 2), (1, 9999)] o o7)
      exact ⟨hB_o7, fr_o7⟩
    ·
      refine T_qDv ⟨⟨by omega, by omega⟩, ⟨by omega, by omega⟩, by omega⟩ ?_
      have jd27 := jq_abs (a := x3_24) (b := x2_23) (by omega)
      refine T_qB2 (t_X12_ask o (jq x3_24 x2_23) 1 hB_o) (fun r2 o4 hc_r2 hp28 => ?_)
      replace hp28 : BoxM o4 ∧ (Fr [(0, 2)] o o4) ∧ (r2 = 1) := hp28
      obtain ⟨hB_o4, fc_o4, hp28⟩ := hp28
      have fr_o4 : Fr [(0, 0), (0, 2), (1, 9999)] o o4 := Fr.tr fr_o fc_o4 rfl
      have g0_4_o4 : o4.1 0 4 = o.1 0 4 := fc_o4.1 0 4 rfl
      have g0_17_o4 : o4.1 0 17 = o.1 0 17 := fc_o4.1 0 17 rfl
      unfold b_X12_mean_116
      refine T_some ?_
      show BoxM o4 ∧ (Fr [(0, 0), (0, 2), (1, 9999)] o o4)
      exact ⟨hB_o4, fr_o4⟩
set_option maxRecDepth 20000 in
set_option maxHeartbeats 4000000 in
theorem t_X12_hasRoom (o : OO) (x1 : Int) (hB_o : BoxM o) (k0 : 0 ≤ x1 ∧ x1 ≤ 31) : T (s_X12_hasRoom o x1) (fun v => (0 ≤ v ∧ v ≤ 1)) := by
  unfold s_X12_hasRoom
  refine T_qIn ⟨by omega, by omega⟩ ?_
  refine T_qNm (fun n2 e_n2 => ?_)
  have b_n2 : 0 ≤ n2 ∧ n2 ≤ 2 := by rw [e_n2]; exact bM_14 hB_o _
  refine T_qEq ⟨by omega, by omega⟩ ⟨by decide, by decide⟩ (fun h1 => ?_) (fun h1 => ?_)
  ·
    refine T_qIn ⟨by omega, by omega⟩ ?_
    refine T_qNm (fun n4 e_n4 => ?_)
    have b_n4 : 0 ≤ n4 ∧ n4 ≤ 1 := by rw [e_n4]; exact bM_16 hB_o _
    refine T_qEq ⟨by omega, by omega⟩ ⟨by decide, by decide⟩ (fun h2 => ?_) (fun h2 => ?_)
    ·
      refine T_qB (t_X12_living o x1 hB_o (by omega)) (fun r5 hc_r5 hp3 => ?_)
      replace hp3 : (0 ≤ r5 ∧ r5 ≤ 40) := hp3
      refine T_qIn ⟨by omega, by omega⟩ ?_
      refine T_qNm (fun n8 e_n8 => ?_)
      have b_n8 : 0 ≤ n8 ∧ n8 ≤ 20 := by rw [e_n8]; exact bM_15 hB_o _
      refine T_qLt ⟨by omega, by omega⟩ ⟨by omega, by omega⟩ (fun h4 => ?_) (fun h4 => ?_)
      ·
        unfold b_X12_hasRoom_37
        refine T_qZ (Or.inr rfl) ?_
        refine T_some ?_
        show (0 ≤ 1 ∧ 1 ≤ 1)
        exact (by omega)
      ·
        unfold b_X12_hasRoom_36
        unfold b_X12_hasRoom_37
        refine T_qZ (Or.inl rfl) ?_
        refine T_some ?_
        show (0 ≤ 0 ∧ 0 ≤ 1)
        exact (by omega)
    ·
      unfold b_X12_hasRoom_36
      unfold b_X12_hasRoom_37
      refine T_qZ (Or.inl rfl) ?_
      refine T_some ?_
      show (0 ≤ 0 ∧ 0 ≤ 1)
      exact (by omega)
  ·
    unfold b_X12_hasRoom_36
    unfold b_X12_hasRoom_37
    refine T_qZ (Or.inl rfl) ?_
    refine T_some ?_
    show (0 ≤ 0 ∧ 0 ≤ 1)
    exact (by omega)
set_option maxRecDepth 20000 in
set_option maxHeartbeats 4000000 in
theorem t_X12_moved (o : OO) (x1 : Int) (x2 : Int) (x3 : Int) (hB_o : BoxM o) (k0 : inR x1) (k1 : inR x2) (k2 : inR x3) : T (s_X12_moved o x1 x2 x3) (fun v => BoxM v.2 ∧ (Fr [(0, 0), (0, 2), (0, 32), (1, 9999), (21, 9999), (25, 9999), (26, 9999), (27, 9999), (29, 9999), (30, 9999), (32, 9999), (33, 9999)] o v.2)) := by
  have fr_o : Fr [(0, 0), (0, 2), (0, 32), (1, 9999), (21, 9999), (25, 9999), (26, 9999), (27, 9999), (29, 9999), (30, 9999), (32, 9999), (33, 9999)] o o := Fr.rf
  have g0_32_o := bM_0_32 hB_o
  have g0_27_o := bM_0_27 hB_o
  have g0_17_o := bM_0_17 hB_o
  unfold s_X12_moved
  refine T_qB (t_X12_isMark o x1 hB_o (by omega)) (fun r1 hc_r1 hp1 => ?_)
  replace hp1 : ((r1 = 1 ∧ 0 ≤ x1 ∧ x1 < o.1 0 32) ∨ (r1 = 0 ∧ (x1 < 0 ∨ o.1 0 32 ≤ x1))) := hp1
  refine T_qEq ⟨by omega, by omega⟩ ⟨by decide, by decide⟩ (fun h2 => ?_) (fun h2 => ?_)
  ·
    unfold b_X12_moved_24
    refine T_some ?_
    show BoxM o ∧ (Fr [(0, 0), (0, 2), (0, 32), (1, 9999), (21, 9999), (25, 9999), (26, 9999), (27, 9999), (29, 9999), (30, 9999), (32, 9999), (33, 9999)] o o)
    exact ⟨hB_o, fr_o⟩
  ·
    refine T_qB (t_X12_isPerson o x2 hB_o (by omega)) (fun r3 hc_r3 hp3 => ?_)
    replace hp3 : ((r3 = 1 ∧ 0 ≤ x2 ∧ x2 < o.1 0 27) ∨ (r3 = 0 ∧ (x2 < 0 ∨ o.1 0 27 ≤ x2))) := hp3
    refine T_qEq ⟨by omega, by omega⟩ ⟨by decide, by decide⟩ (fun h4 => ?_) (fun h4 => ?_)
    ·
      unfold b_X12_moved_24
      refine T_some ?_
      show BoxM o ∧ (Fr [(0, 0), (0, 2), (0, 32), (1, 9999), (21, 9999), (25, 9999), (26, 9999), (27, 9999), (29, 9999), (30, 9999), (32, 9999), (33, 9999)] o o)
      exact ⟨hB_o, fr_o⟩
    ·
      refine T_qB (t_X12_isBuilding o x3 hB_o (by omega)) (fun r5 hc_r5 hp5 => ?_)
      replace hp5 : ((r5 = 1 ∧ 0 ≤ x3 ∧ x3 < o.1 0 17) ∨ (r5 = 0 ∧ (x3 < 0 ∨ o.1 0 17 ≤ x3))) := hp5
      refine T_qEq ⟨by omega, by omega⟩ ⟨by decide, by decide⟩ (fun h6 => ?_) (fun h6 => ?_)
      ·
        unfold b_X12_moved_24
        refine T_some ?_
        show BoxM o ∧ (Fr [(0, 0), (0, 2), (0, 32), (1, 9999), (21, 9999), (25, 9999), (26, 9999), (27, 9999), (29, 9999), (30, 9999), (32, 9999), (33, 9999)] o o)
        exact ⟨hB_o, fr_o⟩
      ·
        refine T_qEq ⟨by omega, by omega⟩ ⟨by decide, by decide⟩ (fun h7 => ?_) (fun h7 => ?_)
        ·
          refine T_some ?_
          show BoxM o ∧ (Fr [(0, 0), (0, 2), (0, 32), (1, 9999), (21, 9999), (25, 9999), (26, 9999), (27, 9999), (29, 9999), (30, 9999), (32, 9999), (33, 9999)] o o)
          exact ⟨hB_o, fr_o⟩
        ·
          refine T_qIn ⟨by omega, by omega⟩ ?_
          refine T_qNm (fun n8 e_n8 => ?_)
          have b_n8 : 0 ≤ n8 ∧ n8 ≤ 6 := by rw [e_n8]; exact bM_25 hB_o _
          refine T_qEq ⟨by omega, by omega⟩ ⟨by decide, by decide⟩ (fun h8 => ?_) (fun h8 => ?_)
          ·
            refine T_qIn ⟨by omega, by omega⟩ ?_
            refine T_qNm (fun m10 e_m10 => ?_)
            refine T_qB (t_X12_has m10 x2 (by omega)) (fun r11 hc_r11 hp9 => ?_)
            replace hp9 : ((r11 = 1 ∧ bt m10 x2.toNat = true) ∨ (r11 = 0 ∧ bt m10 x2.toNat = false)) := hp9
            refine T_qEq ⟨by omega, by omega⟩ ⟨by decide, by decide⟩ (fun h10 => ?_) (fun h10 => ?_)
            ·
              unfold b_X12_moved_84
              refine T_some ?_
              show BoxM o ∧ (Fr [(0, 0), (0, 2), (0, 32), (1, 9999), (21, 9999), (25, 9999), (26, 9999), (27, 9999), (29, 9999), (30, 9999), (32, 9999), (33, 9999)] o o)
              exact ⟨hB_o, fr_o⟩
            ·
              refine T_qIn ⟨by omega, by omega⟩ ?_
              refine T_qNm (fun n14 e_n14 => ?_)
              have b_n14 : -9 ≤ n14 ∧ n14 ≤ 31 := by rw [e_n14]; exact bM_21 hB_o _
              refine T_qLt ⟨by omega, by omega⟩ ⟨by decide, by decide⟩ (fun h11 => ?_) (fun h11 => ?_)
              ·
                refine T_qB (t_X12_hasRoom o x3 hB_o (by omega)) (fun r15 hc_r15 hp12 => ?_)
                replace hp12 : (0 ≤ r15 ∧ r15 ≤ 1) := hp12
                refine T_qEq ⟨by omega, by omega⟩ ⟨by decide, by decide⟩ (fun h13 => ?_) (fun h13 => ?_)
                ·
                  unfold b_X12_moved_84
                  refine T_some ?_
                  show BoxM o ∧ (Fr [(0, 0), (0, 2), (0, 32), (1, 9999), (21, 9999), (25, 9999), (26, 9999), (27, 9999), (29, 9999), (30, 9999), (32, 9999), (33, 9999)] o o)
                  exact ⟨hB_o, fr_o⟩
                ·
                  refine T_qB2 (t_X12_enter o 4 x1 hB_o (by omega) (by omega) (by omega)) (fun r17 o19 hc_r17 hp14 => ?_)
                  replace hp14 : BoxM o19 ∧ (Fr [(0, 32), (25, 9999), (26, 9999), (27, 9999), (29, 9999), (30, 9999)] o o19) ∧ (r17 = o.1 0 32) ∧ (o19.1 0 32 = o.1 0 32 + 1) := hp14
                  obtain ⟨hB_o19, fc_o19, hp14⟩ := hp14
                  have fr_o19 : Fr [(0, 0), (0, 2), (0, 32), (1, 9999), (21, 9999), (25, 9999), (26, 9999), (27, 9999), (29, 9999), (30, 9999), (32, 9999), (33, 9999)] o o19 := Fr.tr fr_o fc_o19 rfl
                  have g0_32_o19 := bM_0_32 hB_o19
                  have g0_27_o19 : o19.1 0 27 = o.1 0 27 := fc_o19.1 0 27 rfl
                  have g0_17_o19 : o19.1 0 17 = o.1 0 17 := fc_o19.1 0 17 rfl
                  refine T_qB (t_X12_nowInForce o19 3 hB_o19 (by omega)) (fun r20 hc_r20 hp15 => ?_)
                  replace hp15 : (0 ≤ r20 ∧ r20 ≤ 9999) := hp15
                  refine T_qIn ⟨by omega, by omega⟩ ?_
                  refine T_qNm (fun o23 e_o23 => ?_)
                  have hB_o23 : BoxM o23 := by rw [e_o23]; exact Box.s1 hB_o19 (show 0 ≤ r20 ∧ r20 ≤ 10000000 from ⟨by omega, by omega⟩)
                  have fr_o23 : Fr [(0, 0), (0, 2), (0, 32), (1, 9999), (21, 9999), (25, 9999), (26, 9999), (27, 9999), (29, 9999), (30, 9999), (32, 9999), (33, 9999)] o o23 := by rw [e_o23]; exact Fr.s1 fr_o19 rfl
                  have g0_32_o23 : o23.1 0 32 = o19.1 0 32 := by rw [e_o23]; rfl
                  have g0_27_o23 : o23.1 0 27 = o19.1 0 27 := by rw [e_o23]; rfl
                  have g0_17_o23 : o23.1 0 17 = o19.1 0 17 := by rw [e_o23]; rfl
                  refine T_qIn ⟨by omega, by omega⟩ ?_
                  refine T_qNm (fun o25 e_o25 => ?_)
                  have hB_o25 : BoxM o25 := by rw [e_o25]; exact Box.s1 hB_o23 (show 0 ≤ x2 ∧ x2 ≤ 39 from ⟨by omega, by omega⟩)
                  have fr_o25 : Fr [(0, 0), (0, 2), (0, 32), (1, 9999), (21, 9999), (25, 9999), (26, 9999), (27, 9999), (29, 9999), (30, 9999), (32, 9999), (33, 9999)] o o25 := by rw [e_o25]; exact Fr.s1 fr_o23 rfl
                  have g0_32_o25 : o25.1 0 32 = o23.1 0 32 := by rw [e_o25]; rfl
                  have g0_27_o25 : o25.1 0 27 = o23.1 0 27 := by rw [e_o25]; rfl
                  have g0_17_o25 : o25.1 0 17 = o23.1 0 17 := by rw [e_o25]; rfl
                  refine T_qIn ⟨by omega, by omega⟩ ?_
                  refine T_qNm (fun o27 e_o27 => ?_)
                  have hB_o27 : BoxM o27 := by rw [e_o27]; exact Box.s1 hB_o25 (show -9 ≤ x3 ∧ x3 ≤ 31 from ⟨by omega, by omega⟩)
                  have fr_o27 : Fr [(0, 0), (0, 2), (0, 32), (1, 9999), (21, 9999), (25, 9999), (26, 9999), (27, 9999), (29, 9999), (30, 9999), (32, 9999), (33, 9999)] o o27 := by rw [e_o27]; exact Fr.s1 fr_o25 rfl
                  have g0_32_o27 : o27.1 0 32 = o25.1 0 32 := by rw [e_o27]; rfl
                  have g0_27_o27 : o27.1 0 27 = o25.1 0 27 := by rw [e_o27]; rfl
                  have g0_17_o27 : o27.1 0 17 = o25.1 0 17 := by rw [e_o27]; rfl
                  refine T_qIn ⟨by omega, by omega⟩ ?_
                  refine T_qNm (fun n29 e_n29 => ?_)
                  have b_n29 : 0 ≤ n29 ∧ n29 ≤ 10000000 := by rw [e_n29]; exact bM_32 hB_o27 _
                  refine T_qB2 (t_X12_ask o27 n29 r17 hB_o27) (fun r30 o32 hc_r30 hp16 => ?_)
                  replace hp16 : BoxM o32 ∧ (Fr [(0, 2)] o27 o32) ∧ (r30 = r17) := hp16
                  obtain ⟨hB_o32, fc_o32, hp16⟩ := hp16
                  have fr_o32 : Fr [(0, 0), (0, 2), (0, 32), (1, 9999), (21, 9999), (25, 9999), (26, 9999), (27, 9999), (29, 9999), (30, 9999), (32, 9999), (33, 9999)] o o32 := Fr.tr fr_o27 fc_o32 rfl
                  have g0_32_o32 : o32.1 0 32 = o27.1 0 32 := fc_o32.1 0 32 rfl
                  have g0_27_o32 : o32.1 0 27 = o27.1 0 27 := fc_o32.1 0 27 rfl
                  have g0_17_o32 : o32.1 0 17 = o27.1 0 17 := fc_o32.1 0 17 rfl
                  refine T_some ?_
                  show BoxM o32 ∧ (Fr [(0, 0), (0, 2), (0, 32), (1, 9999), (21, 9999), (25, 9999), (26, 9999), (27, 9999), (29, 9999), (30, 9999), (32, 9999), (33, 9999)] o o32)
                  exact ⟨hB_o32, fr_o32⟩
              ·
                unfold b_X12_moved_84
                refine T_some ?_
                show BoxM o ∧ (Fr [(0, 0), (0, 2), (0, 32), (1, 9999), (21, 9999), (25, 9999), (26, 9999), (27, 9999), (29, 9999), (30, 9999), (32, 9999), (33, 9999)] o o)
                exact ⟨hB_o, fr_o⟩
          ·
            refine T_qB2 (t_X12_meets o 3 hB_o (by omega)) (fun r33 o35 hc_r33 hp17 => ?_)
            replace hp17 : BoxM o35 ∧ (Fr [(0, 0), (1, 9999)] o o35) ∧ (r33 = -3) := hp17
            obtain ⟨hB_o35, fc_o35, hp17⟩ := hp17
            have fr_o35 : Fr [(0, 0), (0, 2), (0, 32), (1, 9999), (21, 9999), (25, 9999), (26, 9999), (27, 9999), (29, 9999), (30, 9999), (32, 9999), (33, 9999)] o o35 := Fr.tr fr_o fc_o35 rfl
            have g0_32_o35 : o35.1 0 32 = o.1 0 32 := fc_o35.1 0 32 rfl
            have g0_27_o35 : o35.1 0 27 = o.1 0 27 := fc_o35.1 0 27 rfl
            have g0_17_o35 : o35.1 0 17 = o.1 0 17 := fc_o35.1 0 17 rfl
            refine T_some ?_
            show BoxM o35 ∧ (Fr [(0, 0), (0, 2), (0, 32), (1, 9999), (21, 9999), (25, 9999), (26, 9999), (27, 9999), (29, 9999), (30, 9999), (32, 9999), (33, 9999)] o o35)
            exact ⟨hB_o35, fr_o35⟩
