set_option maxRecDepth 20000 in
set_option maxHeartbeats 4000000 in
theorem t_X11_set (o : OO) (hB_o : BoxC o) : T (s_X11_set o) (fun _ => True) := by
  unfold s_X11_set
  refine T_some ?_
  show True
  exact trivial
set_option maxRecDepth 20000 in
set_option maxHeartbeats 4000000 in
theorem t_X3_around (z0 : Int64)  : T (s_X3_around z0) (fun _ => True) := by
  unfold s_X3_around
  refine T_qB (t_X3_spreadAside z0) (fun p1 hc_p1 hp1 => ?_)
  refine T_qB (t_X3_spreadAside p1) (fun p3 hc_p3 hp2 => ?_)
  refine T_some ?_
  show True
  exact trivial
set_option maxRecDepth 20000 in
set_option maxHeartbeats 4000000 in
theorem t_X11_lowered (x0 : Int) (x1 : Int) (k0 : 0 ≤ x0 ∧ x0 ≤ 100000) (k1 : 0 ≤ x1 ∧ x1 ≤ 9999) : T (s_X11_lowered x0 x1) (fun v => (1 ≤ v ∧ v ≤ 100000)) := by
  have hm9 := low_rng k0.1 k0.2 k1.1 k1.2
  unfold s_X11_lowered
  refine T_qDv ⟨⟨by omega, by omega⟩, ⟨by decide, by decide⟩, by decide⟩ ?_
  have jd1 := jq_or (a := x0 * (100 - x1)) (b := 100)
  refine T_qR ⟨by decide, by decide⟩ ?_
  refine T_qR ⟨by omega, by omega⟩ ?_
  refine T_some ?_
  show (1 ≤ (max 1 (jq (x0 * (100 - x1)) 100)) ∧ (max 1 (jq (x0 * (100 - x1)) 100)) ≤ 100000)
  exact (by omega)
set_option maxRecDepth 20000 in
set_option maxHeartbeats 4000000 in
theorem t_X4_showOn (o : OO) (x1 : Int) (x2 : Int) (hB_o : BoxC o) (k0 : 0 ≤ x1 ∧ x1 ≤ 23) (k1 : 0 ≤ x2 ∧ x2 ≤ 999) : T (s_X4_showOn o x1 x2) (fun v => BoxC v ∧ (Fr [(40, 9999)] o v)) := by
  have fr_o : Fr [(40, 9999)] o o := Fr.rf
  unfold s_X4_showOn
  refine T_qIn ⟨by omega, by omega⟩ ?_
  refine T_qNm (fun o2 e_o2 => ?_)
  have hB_o2 : BoxC o2 := by rw [e_o2]; exact Box.s1 hB_o (show -9 ≤ x2 ∧ x2 ≤ 999 from ⟨by omega, by omega⟩)
  have fr_o2 : Fr [(40, 9999)] o o2 := by rw [e_o2]; exact Fr.s1 fr_o rfl
  refine T_some ?_
  show BoxC o2 ∧ (Fr [(40, 9999)] o o2)
  exact ⟨hB_o2, fr_o2⟩
set_option maxRecDepth 20000 in
set_option maxHeartbeats 4000000 in
theorem tl_X11_show_94 (x1 : Int) (z2 : Int64) (x4 : Int) (x5 : Int) (i_o : OO) (i_x6 : Int) (hB_i_o : BoxC i_o) (k0 : 0 ≤ x1 ∧ x1 ≤ 23) (k1 : 0 ≤ x5 ∧ x5 ≤ 9999) (k2 : i_o.1 10 13 + KP (NRC i_o z2) (i_o.1 10 12) ≤ 100) (v0 : 0 ≤ i_x6 ∧ i_x6 ≤ i_o.1 10 12) (v1 : i_o.1 10 13 + KP (NRC i_o z2) (i_o.1 10 12) - KP (NRC i_o z2) i_x6 ≤ 100) (v2 : HTC i_o → HTC i_o) : T (loopW (fun s => l_X11_show_94 x1 z2 x4 x5 s.1 s.2) (i_o, i_x6)) (fun r => BoxC r ∧ (Fr [(10, 13), (16, 9999), (19, 9999), (20, 9999), (21, 9999)] i_o r) ∧ (HTC i_o → HTC r)) := by
  have fr_i_o : Fr [(10, 13), (16, 9999), (19, 9999), (20, 9999), (21, 9999)] i_o i_o := Fr.rf
  refine T_loop (fun s => BoxC s.1 ∧ (Fr [(10, 13), (16, 9999), (19, 9999), (20, 9999), (21, 9999)] i_o s.1) ∧ (0 ≤ s.2 ∧ s.2 ≤ s.1.1 10 12) ∧ (s.1.1 10 13 + KP (NRC i_o z2) (i_o.1 10 12) - KP (NRC i_o z2) s.2 ≤ 100) ∧ (HTC i_o → HTC s.1)) (fun s => (s.1.1 10 12 - s.2).toNat) (by exact ⟨hB_i_o, fr_i_o, v0, v1, v2⟩) (fun s hs => ?_)
  obtain ⟨o, x6⟩ := s
  replace hs : BoxC o ∧ (Fr [(10, 13), (16, 9999), (19, 9999), (20, 9999), (21, 9999)] i_o o) ∧ (0 ≤ x6 ∧ x6 ≤ o.1 10 12) ∧ (o.1 10 13 + KP (NRC i_o z2) (i_o.1 10 12) - KP (NRC i_o z2) x6 ≤ 100) ∧ (HTC i_o → HTC o) := hs
  obtain ⟨hB_o, fr_o, w0, w1, w2⟩ := hs
  have g0_13_i := bC_0_13 hB_i_o
  have g0_13_o : o.1 0 13 = i_o.1 0 13 := fr_o.1 0 13 rfl
  have g32_13_i := bC_32_13 hB_i_o
  have g32_13_o : o.1 32 13 = i_o.1 32 13 := fr_o.1 32 13 rfl
  have g10_13_i := bC_10_13 hB_i_o
  have g10_13_o := bC_10_13 hB_o
  have g10_12_i := bC_10_12 hB_i_o
  have g10_12_o : o.1 10 12 = i_o.1 10 12 := fr_o.1 10 12 rfl
  have nrc : ∀ b, NRC o z2 b ↔ NRC i_o z2 b := fun b => NRC.cg (fr_o.1 10 12 rfl) (fun k => fr_o.1 17 k rfl) (fun k => fr_o.1 11 k rfl) z2 b
  have km := KP_mono (P := NRC i_o z2) (m := x6) (n := x6 + 1) (by omega) (by omega)
  show T (l_X11_show_94 x1 z2 x4 x5 o x6) _
  unfold l_X11_show_94
  refine T_qB (t_X1_number o hB_o) (fun r4 hc_r4 hp1 => ?_)
  replace hp1 : (r4 = o.1 10 12) := hp1
  refine T_qLt ⟨by omega, by omega⟩ ⟨by omega, by omega⟩ (fun h2 => ?_) (fun h2 => ?_)
  ·
    refine T_qB (t_X1_isTaken o x6 hB_o (by omega)) (fun r6 hc_r6 hp3 => ?_)
    replace hp3 : (0 ≤ r6 ∧ r6 ≤ 1) ∧ (r6 = o.1 17 x6.toNat) := hp3
    have hps_hp3 := hp3
    obtain ⟨hp3_0, hp3_1⟩ := hps_hp3
    replace hp3 := hid hp3
    refine T_qEq ⟨by omega, by omega⟩ ⟨by decide, by decide⟩ (fun h4 => ?_) (fun h4 => ?_)
    ·
      refine T_qB (t_X1_cellOfOne o x6 hB_o (by omega)) (fun r8 hc_r8 hp5 => ?_)
      replace hp5 : (0 ≤ r8 ∧ r8 ≤ 63) ∧ (r8 = o.1 11 x6.toNat) := hp5
      have hps_hp5 := hp5
      obtain ⟨hp5_0, hp5_1⟩ := hps_hp5
      replace hp5 := hid hp5
      have h8 := hp5_1
      refine T_qB (t_X3_has z2 r8) (fun r10 hc_r10 hp6 => ?_)
      replace hp6 : (0 ≤ r10 ∧ r10 ≤ 1) ∧ (HBT z2 r8 r10) := hp6
      have hps_hp6 := hp6
      obtain ⟨hp6_0, hp6_1⟩ := hps_hp6
      replace hp6 := hid hp6
      have nr1 : ¬ r10 = 0 → NRC i_o z2 x6 := fun e => (nrc x6).mp ⟨by omega, by omega, by omega, by rw [← h8]; exact hp6_1.yes (by omega) e⟩
      have kl : ¬ r10 = 0 → KP (NRC i_o z2) x6 + 1 ≤ KP (NRC i_o z2) (i_o.1 10 12) := fun e => KP_lt (by omega) (by omega) (nr1 e)
      have kt : ¬ r10 = 0 → KP (NRC i_o z2) (x6 + 1) = KP (NRC i_o z2) x6 + 1 := fun e => by rw [KP_s (by omega), cn_pos (nr1 e)]
      refine T_qEq ⟨by omega, by omega⟩ ⟨by decide, by decide⟩ (fun h7 => ?_) (fun h7 => ?_)
      ·
        unfold b_X11_show_164
        refine T_some ?_
        show (BoxC o ∧ (Fr [(10, 13), (16, 9999), (19, 9999), (20, 9999), (21, 9999)] i_o o) ∧ (0 ≤ (x6 + 1) ∧ (x6 + 1) ≤ o.1 10 12) ∧ (o.1 10 13 + KP (NRC i_o z2) (i_o.1 10 12) - KP (NRC i_o z2) (x6 + 1) ≤ 100) ∧ (HTC i_o → HTC o)) ∧ (o.1 10 12 - (x6 + 1)).toNat < (o.1 10 12 - x6).toNat
        exact ⟨⟨hB_o, fr_o, (by omega), (by omega), (by first | exact (fun h => h) | assumption | exact (fun h => ht3 (ht8 h)))⟩, by omega⟩
      ·
        refine T_qB (t_X1_latestWorth o x6 hB_o (by omega)) (fun r12 hc_r12 hp8 => ?_)
        replace hp8 : (0 ≤ r12 ∧ r12 ≤ 100000) := hp8
        have kl2 := kl (by omega)
        have kt2 := kt (by omega)
        refine T_qB (t_X11_lowered r12 x5 (by omega) (by omega)) (fun r14 hc_r14 hp9 => ?_)
        replace hp9 : (1 ≤ r14 ∧ r14 ≤ 100000) := hp9
        refine T_qB (t_X1_assess o x6 r14 (o.1 0 13) hB_o (by omega) (by omega) (by omega) (by omega)) (fun o18 hc_o18 hp10 => ?_)
        replace hp10 : BoxC o18 ∧ (Fr [(10, 13), (16, 9999), (19, 9999), (20, 9999), (21, 9999)] o o18) ∧ (o18.1 10 13 = o.1 10 13 + 1) ∧ (HTC o → HTC o18) ∧ (o18.1 19 (o.1 10 13).toNat = x6) ∧ (∀ k : Nat, (k : Int) < o.1 10 13 → o18.1 19 k = o.1 19 k) := hp10
        obtain ⟨hB_o18, fc_o18, hp10⟩ := hp10
        have fr_o18 : Fr [(10, 13), (16, 9999), (19, 9999), (20, 9999), (21, 9999)] i_o o18 := Fr.tr fr_o fc_o18 rfl
        have g0_13_o18 : o18.1 0 13 = o.1 0 13 := fc_o18.1 0 13 rfl
        have g32_13_o18 : o18.1 32 13 = o.1 32 13 := fc_o18.1 32 13 rfl
        have g10_13_o18 := bC_10_13 hB_o18
        have g10_12_o18 : o18.1 10 12 = o.1 10 12 := fc_o18.1 10 12 rfl
        have ht9 : HTC i_o → HTC o18 := fun hh => hp10.2.1 (w2 hh)
        have hq9 := hp10.1
        unfold b_X11_show_164
        refine T_some ?_
        show (BoxC o18 ∧ (Fr [(10, 13), (16, 9999), (19, 9999), (20, 9999), (21, 9999)] i_o o18) ∧ (0 ≤ (x6 + 1) ∧ (x6 + 1) ≤ o18.1 10 12) ∧ (o18.1 10 13 + KP (NRC i_o z2) (i_o.1 10 12) - KP (NRC i_o z2) (x6 + 1) ≤ 100) ∧ (HTC i_o → HTC o18)) ∧ (o18.1 10 12 - (x6 + 1)).toNat < (o.1 10 12 - x6).toNat
        exact ⟨⟨hB_o18, fr_o18, (by omega), (by omega), (by first | exact (fun h => h) | assumption | exact (fun h => ht3 (ht8 h)))⟩, by omega⟩
    ·
      unfold b_X11_show_164
      refine T_some ?_
      show (BoxC o ∧ (Fr [(10, 13), (16, 9999), (19, 9999), (20, 9999), (21, 9999)] i_o o) ∧ (0 ≤ (x6 + 1) ∧ (x6 + 1) ≤ o.1 10 12) ∧ (o.1 10 13 + KP (NRC i_o z2) (i_o.1 10 12) - KP (NRC i_o z2) (x6 + 1) ≤ 100) ∧ (HTC i_o → HTC o)) ∧ (o.1 10 12 - (x6 + 1)).toNat < (o.1 10 12 - x6).toNat
      exact ⟨⟨hB_o, fr_o, (by omega), (by omega), (by first | exact (fun h => h) | assumption | exact (fun h => ht3 (ht8 h)))⟩, by omega⟩
  ·
    refine T_some ?_
    show BoxC o ∧ (Fr [(10, 13), (16, 9999), (19, 9999), (20, 9999), (21, 9999)] i_o o) ∧ (HTC i_o → HTC o)
    exact ⟨hB_o, fr_o, (by first | exact (fun h => h) | assumption | exact (fun h => ht3 (ht8 h)))⟩
set_option maxRecDepth 20000 in
set_option maxHeartbeats 4000000 in
theorem t_X11_show (o : OO) (x1 : Int) (hB_o : BoxC o) (k0 : inR x1) (k1 : OC o) : T (s_X11_show o x1) (fun v => BoxC v.2 ∧ (Fr [(0, 17), (10, 13), (16, 9999), (19, 9999), (20, 9999), (21, 9999), (40, 9999), (77, 9999)] o v.2) ∧ (inR v.1) ∧ (HTC o → HTC v.2)) := by
  have fr_o : Fr [(0, 17), (10, 13), (16, 9999), (19, 9999), (20, 9999), (21, 9999), (40, 9999), (77, 9999)] o o := Fr.rf
  have g0_13_o := bC_0_13 hB_o
  have g32_13_o := bC_32_13 hB_o
  have g10_13_o := bC_10_13 hB_o
  have g10_12_o := bC_10_12 hB_o
  unfold s_X11_show
  refine T_qB (t_X4_exists o x1 hB_o (by omega)) (fun r19 hc_r19 hp11 => ?_)
  replace hp11 : ((r19 = 1 ∧ (0 ≤ x1 ∧ x1 < o.1 32 13)) ∨ (r19 = 0 ∧ ¬ (0 ≤ x1 ∧ x1 < o.1 32 13))) := hp11
  refine T_qEq ⟨by omega, by omega⟩ ⟨by decide, by decide⟩ (fun h12 => ?_) (fun h12 => ?_)
  ·
    refine T_some ?_
    show BoxC o ∧ (Fr [(0, 17), (10, 13), (16, 9999), (19, 9999), (20, 9999), (21, 9999), (40, 9999), (77, 9999)] o o) ∧ (inR (-1)) ∧ (HTC o → HTC o)
    exact ⟨hB_o, fr_o, (by omega), (by first | exact (fun h => h) | assumption | exact (fun h => ht3 (ht8 h)))⟩
  ·
    refine T_qB (t_X4_isOf o x1 1 hB_o (by omega) (by omega)) (fun r21 hc_r21 hp13 => ?_)
    replace hp13 : (0 ≤ r21 ∧ r21 ≤ 1) := hp13
    refine T_qEq ⟨by omega, by omega⟩ ⟨by decide, by decide⟩ (fun h14 => ?_) (fun h14 => ?_)
    ·
      refine T_qB2 (t_X11_found o 3 hB_o (by omega)) (fun r35 o37 hc_r35 hp15 => ?_)
      replace hp15 : BoxC o37 ∧ (Fr [(0, 17), (77, 9999)] o o37) ∧ (r35 = -3) := hp15
      obtain ⟨hB_o37, fc_o37, hp15⟩ := hp15
      have fr_o37 : Fr [(0, 17), (10, 13), (16, 9999), (19, 9999), (20, 9999), (21, 9999), (40, 9999), (77, 9999)] o o37 := Fr.tr fr_o fc_o37 rfl
      have g0_13_o37 : o37.1 0 13 = o.1 0 13 := fc_o37.1 0 13 rfl
      have g32_13_o37 : o37.1 32 13 = o.1 32 13 := fc_o37.1 32 13 rfl
      have g10_13_o37 : o37.1 10 13 = o.1 10 13 := fc_o37.1 10 13 rfl
      have g10_12_o37 : o37.1 10 12 = o.1 10 12 := fc_o37.1 10 12 rfl
      have htf : HTC o → HTC o37 := fun h => HTC.fr h fc_o37 rfl rfl (fun _ => rfl)
      refine T_some ?_
      show BoxC o37 ∧ (Fr [(0, 17), (10, 13), (16, 9999), (19, 9999), (20, 9999), (21, 9999), (40, 9999), (77, 9999)] o o37) ∧ (inR r35) ∧ (HTC o → HTC o37)
      exact ⟨hB_o37, fr_o37, (by omega), (by first | exact (fun h => h) | assumption | exact (fun h => ht3 (ht8 h)))⟩
    ·
      refine T_qB (t_X4_shownOn o x1 hB_o (by omega)) (fun r23 hc_r23 hp16 => ?_)
      replace hp16 : (-9 ≤ r23 ∧ r23 ≤ 999) := hp16
      refine T_qEq ⟨by omega, by omega⟩ ⟨by decide, by decide⟩ (fun h17 => ?_) (fun h17 => ?_)
      ·
        refine T_qB (t_X4_cells o x1 hB_o (by omega)) (fun p25 hc_p25 hp18 => ?_)
        refine T_qB (t_X3_around p25) (fun p27 hc_p27 hp19 => ?_)
        refine T_qB (t_X1_standingIn o p27 hB_o) (fun r29 hc_r29 hp20 => ?_)
        replace hp20 : (inR r29) ∧ (STN o p27 r29) ∧ (0 ≤ r29 ∧ r29 ≤ 64) := hp20
        have hps_hp20 := hp20
        obtain ⟨hp20_0, hp20_1, hp20_2⟩ := hps_hp20
        replace hp20 := hid hp20
        have nl29 : KP (NRC o p27) (o.1 10 12) ≤ r29 := by obtain ⟨p, q1, q2⟩ := hp20_1; rw [q2]; exact NRC_le hB_o (by assumption) q1 (by omega)
        refine T_qB (t_X1_tellingsLeft o hB_o) (fun r31 hc_r31 hp21 => ?_)
        replace hp21 : (r31 = 100 - o.1 10 13) := hp21
        refine T_qLt ⟨by omega, by omega⟩ ⟨by omega, by omega⟩ (fun h22 => ?_) (fun h22 => ?_)
        ·
          refine T_some ?_
          show BoxC o ∧ (Fr [(0, 17), (10, 13), (16, 9999), (19, 9999), (20, 9999), (21, 9999), (40, 9999), (77, 9999)] o o) ∧ (inR (-2)) ∧ (HTC o → HTC o)
          exact ⟨hB_o, fr_o, (by omega), (by first | exact (fun h => h) | assumption | exact (fun h => ht3 (ht8 h)))⟩
        ·
          refine T_qB (t_X11_inForce o 1 hB_o (by omega)) (fun r33 hc_r33 hp23 => ?_)
          replace hp23 : (0 ≤ r33 ∧ r33 ≤ 9999) := hp23
          unfold e_X11_show_94
          refine T_qB (tl_X11_show_94 x1 p27 r29 r33 o 0 hB_o (by omega) (by omega) (by omega) (by omega) (by rw [KP_0]; omega) (by first | exact (fun h => h) | assumption | exact (fun h => ht3 (ht8 h)))) (fun r24 hc_r24 hp25 => ?_)
          obtain ⟨o_26, q_o_26⟩ : ∃ q, q = r24 := ⟨_, rfl⟩
          subst q_o_26
          replace hp25 : BoxC o_26 ∧ (Fr [(10, 13), (16, 9999), (19, 9999), (20, 9999), (21, 9999)] o o_26) ∧ (HTC o → HTC o_26) := hp25
          have hps_hp25 := hp25
          obtain ⟨hp25_0, hp25_1, hp25_2⟩ := hps_hp25
          obtain ⟨hB_o_26, fc_o_26, hp25⟩ := hp25
          replace hp25 := hid hp25
          have fr_o_26 : Fr [(0, 17), (10, 13), (16, 9999), (19, 9999), (20, 9999), (21, 9999), (40, 9999), (77, 9999)] o o_26 := Fr.tr fr_o fc_o_26 rfl
          have g0_13_o_26 : o_26.1 0 13 = o.1 0 13 := fc_o_26.1 0 13 rfl
          have g32_13_o_26 : o_26.1 32 13 = o.1 32 13 := fc_o_26.1 32 13 rfl
          have g10_13_o_26 := bC_10_13 hB_o_26
          have g10_12_o_26 : o_26.1 10 12 = o.1 10 12 := fc_o_26.1 10 12 rfl
          show T (b_X11_show_170 o_26 x1 r29) _
          have ht8 : HTC o → HTC o_26 := by assumption
          unfold b_X11_show_170
          refine T_qB (t_X4_showOn o_26 x1 (o_26.1 0 13) hB_o_26 (by omega) (by omega)) (fun o3 hc_o3 hp27 => ?_)
          replace hp27 : BoxC o3 ∧ (Fr [(40, 9999)] o_26 o3) := hp27
          obtain ⟨hB_o3, fc_o3⟩ := hp27
          have fr_o3 : Fr [(0, 17), (10, 13), (16, 9999), (19, 9999), (20, 9999), (21, 9999), (40, 9999), (77, 9999)] o o3 := Fr.tr fr_o_26 fc_o3 rfl
          have g0_13_o3 : o3.1 0 13 = o_26.1 0 13 := fc_o3.1 0 13 rfl
          have g32_13_o3 : o3.1 32 13 = o_26.1 32 13 := fc_o3.1 32 13 rfl
          have g10_13_o3 : o3.1 10 13 = o_26.1 10 13 := fc_o3.1 10 13 rfl
          have g10_12_o3 : o3.1 10 12 = o_26.1 10 12 := fc_o3.1 10 12 rfl
          have ht3 : HTC o_26 → HTC o3 := fun h => HTC.fr h fc_o3 rfl rfl (fun _ => rfl)
          refine T_some ?_
          show BoxC o3 ∧ (Fr [(0, 17), (10, 13), (16, 9999), (19, 9999), (20, 9999), (21, 9999), (40, 9999), (77, 9999)] o o3) ∧ (inR r29) ∧ (HTC o → HTC o3)
          exact ⟨hB_o3, fr_o3, (by omega), (by first | exact (fun h => h) | assumption | exact (fun h => ht3 (ht8 h)))⟩
      ·
        refine T_some ?_
        show BoxC o ∧ (Fr [(0, 17), (10, 13), (16, 9999), (19, 9999), (20, 9999), (21, 9999), (40, 9999), (77, 9999)] o o) ∧ (inR (-4)) ∧ (HTC o → HTC o)
        exact ⟨hB_o, fr_o, (by omega), (by first | exact (fun h => h) | assumption | exact (fun h => ht3 (ht8 h)))⟩
set_option maxRecDepth 20000 in
set_option maxHeartbeats 4000000 in
theorem t_X11_shown (o : OO) (x1 : Int) (hB_o : BoxC o) (k0 : inR x1) : T (s_X11_shown o x1) (fun v => BoxC v.2 ∧ (Fr [(0, 17), (77, 9999)] o v.2)) := by
  have fr_o : Fr [(0, 17), (77, 9999)] o o := Fr.rf
  have g32_13_o := bC_32_13 hB_o
  unfold s_X11_shown
  refine T_qB (t_X4_exists o x1 hB_o (by omega)) (fun r1 hc_r1 hp1 => ?_)
  replace hp1 : ((r1 = 1 ∧ (0 ≤ x1 ∧ x1 < o.1 32 13)) ∨ (r1 = 0 ∧ ¬ (0 ≤ x1 ∧ x1 < o.1 32 13))) := hp1
  refine T_qEq ⟨by omega, by omega⟩ ⟨by decide, by decide⟩ (fun h2 => ?_) (fun h2 => ?_)
  ·
    refine T_some ?_
    show BoxC o ∧ (Fr [(0, 17), (77, 9999)] o o)
    exact ⟨hB_o, fr_o⟩
  ·
    refine T_qB (t_X4_isOf o x1 1 hB_o (by omega) (by omega)) (fun r3 hc_r3 hp3 => ?_)
    replace hp3 : (0 ≤ r3 ∧ r3 ≤ 1) := hp3
    refine T_qEq ⟨by omega, by omega⟩ ⟨by decide, by decide⟩ (fun h4 => ?_) (fun h4 => ?_)
    ·
      refine T_qB2 (t_X11_found o 3 hB_o (by omega)) (fun r7 o9 hc_r7 hp5 => ?_)
      replace hp5 : BoxC o9 ∧ (Fr [(0, 17), (77, 9999)] o o9) ∧ (r7 = -3) := hp5
      obtain ⟨hB_o9, fc_o9, hp5⟩ := hp5
      have fr_o9 : Fr [(0, 17), (77, 9999)] o o9 := Fr.tr fr_o fc_o9 rfl
      have g32_13_o9 : o9.1 32 13 = o.1 32 13 := fc_o9.1 32 13 rfl
      refine T_some ?_
      show BoxC o9 ∧ (Fr [(0, 17), (77, 9999)] o o9)
      exact ⟨hB_o9, fr_o9⟩
    ·
      refine T_qB (t_X4_shownOn o x1 hB_o (by omega)) (fun r5 hc_r5 hp6 => ?_)
      replace hp6 : (-9 ≤ r5 ∧ r5 ≤ 999) := hp6
      refine T_some ?_
      show BoxC o ∧ (Fr [(0, 17), (77, 9999)] o o)
      exact ⟨hB_o, fr_o⟩
set_option maxRecDepth 20000 in
set_option maxHeartbeats 4000000 in
theorem tl_X9_survey_17 (x2 : Int) (x3 : Int) (i_o : OO) (i_x4 : Int) (hB_i_o : BoxC i_o) (k0 : inR x2) (k1 : 0 ≤ x3 ∧ x3 ≤ 3) (v0 : 0 ≤ i_x4 ∧ i_x4 ≤ 64) (v1 : OPN i_o x3) (v2 : OPW i_o x3) : T (loopW (fun s => l_X9_survey_17 x2 x3 s.1 s.2) (i_o, i_x4)) (fun r => BoxC r ∧ (Fr [(72, 9999)] i_o r) ∧ (OPN r x3) ∧ (OPW r x3)) := by
  have fr_i_o : Fr [(72, 9999)] i_o i_o := Fr.rf
  refine T_loop (fun s => BoxC s.1 ∧ (Fr [(72, 9999)] i_o s.1) ∧ (0 ≤ s.2 ∧ s.2 ≤ 64) ∧ (OPN s.1 x3) ∧ (OPW s.1 x3)) (fun s => (64 - s.2).toNat) (by exact ⟨hB_i_o, fr_i_o, v0, v1, v2⟩) (fun s hs => ?_)
  obtain ⟨o, x4⟩ := s
  replace hs : BoxC o ∧ (Fr [(72, 9999)] i_o o) ∧ (0 ≤ x4 ∧ x4 ≤ 64) ∧ (OPN o x3) ∧ (OPW o x3) := hs
  obtain ⟨hB_o, fr_o, w0, w1, w2⟩ := hs
  show T (l_X9_survey_17 x2 x3 o x4) _
  unfold l_X9_survey_17
  refine T_qLt ⟨by omega, by omega⟩ ⟨by decide, by decide⟩ (fun h1 => ?_) (fun h1 => ?_)
  ·
    refine T_qB (t_X3_onward o x4 x3 x2 hB_o (by omega) (by omega) (by omega)) (fun r1 hc_r1 hp2 => ?_)
    replace hp2 : (-9 ≤ r1 ∧ r1 ≤ 63) ∧ (r1 = -9 ∨ (0 ≤ r1 ∧ r1 = bsd x4 x3)) := hp2
    have hps_hp2 := hp2
    obtain ⟨hp2_0, hp2_1⟩ := hps_hp2
    replace hp2 := hid hp2
    refine T_qEq ⟨by omega, by omega⟩ ⟨by decide, by decide⟩ (fun h3 => ?_) (fun h3 => ?_)
    ·
      unfold b_X9_survey_51
      refine T_some ?_
      show (BoxC o ∧ (Fr [(72, 9999)] i_o o) ∧ (0 ≤ (x4 + 1) ∧ (x4 + 1) ≤ 64) ∧ (OPN o x3) ∧ (OPW o x3)) ∧ (64 - (x4 + 1)).toNat < (64 - x4).toNat
      exact ⟨⟨hB_o, fr_o, (by omega), (by first | assumption | exact OPN_0 | (have q9 := w1; rwa [show x3 = 4 by omega] at q9)), (by assumption)⟩, by omega⟩
    ·
      refine T_qIn ⟨by omega, by omega⟩ ?_
      refine T_qNm (fun m4 e_m4 => ?_)
      refine T_qB (t_X3_bit x4) (fun p5 hc_p5 hp4 => ?_)
      replace hp4 : (p5 = jshl 1 (Int32.ofInt x4)) := hp4
      have bp5 := hp4
      refine T_qIn ⟨by omega, by omega⟩ ?_
      refine T_qNm (fun o8 e_o8 => ?_)
      have hB_o8 : BoxC o8 := by rw [e_o8]; exact Box.s2 hB_o
      have fr_o8 : Fr [(72, 9999)] i_o o8 := by rw [e_o8]; exact Fr.s2 fr_o rfl
      have op8 : OPN o8 x3 := by rw [e_o8]; exact OPN_72 w1 (by omega) _
      have ow8 : OPW o8 x3 := by rw [e_o8, e_m4, bp5]; exact OPW_or w2 (by omega) (by omega)
      unfold b_X9_survey_51
      refine T_some ?_
      show (BoxC o8 ∧ (Fr [(72, 9999)] i_o o8) ∧ (0 ≤ (x4 + 1) ∧ (x4 + 1) ≤ 64) ∧ (OPN o8 x3) ∧ (OPW o8 x3)) ∧ (64 - (x4 + 1)).toNat < (64 - x4).toNat
      exact ⟨⟨hB_o8, fr_o8, (by omega), (by first | assumption | exact OPN_0 | (have q9 := w1; rwa [show x3 = 4 by omega] at q9)), (by assumption)⟩, by omega⟩
  ·
    refine T_some ?_
    show BoxC o ∧ (Fr [(72, 9999)] i_o o) ∧ (OPN o x3) ∧ (OPW o x3)
    exact ⟨hB_o, fr_o, (by first | assumption | exact OPN_0 | (have q9 := w1; rwa [show x3 = 4 by omega] at q9)), (by assumption)⟩
set_option maxRecDepth 20000 in
set_option maxHeartbeats 4000000 in
theorem tl_X9_survey_2 (x2 : Int) (i_o : OO) (i_x3 : Int) (hB_i_o : BoxC i_o) (k0 : inR x2) (v0 : 0 ≤ i_x3 ∧ i_x3 ≤ 4) (v1 : OPN i_o i_x3) : T (loopW (fun s => l_X9_survey_2 x2 s.1 s.2) (i_o, i_x3)) (fun r => BoxC r ∧ (Fr [(72, 9999)] i_o r) ∧ (OPN r 4)) := by
  have fr_i_o : Fr [(72, 9999)] i_o i_o := Fr.rf
  refine T_loop (fun s => BoxC s.1 ∧ (Fr [(72, 9999)] i_o s.1) ∧ (0 ≤ s.2 ∧ s.2 ≤ 4) ∧ (OPN s.1 s.2)) (fun s => (4 - s.2).toNat) (by exact ⟨hB_i_o, fr_i_o, v0, v1⟩) (fun s hs => ?_)
  obtain ⟨o, x3⟩ := s
  replace hs : BoxC o ∧ (Fr [(72, 9999)] i_o o) ∧ (0 ≤ x3 ∧ x3 ≤ 4) ∧ (OPN o x3) := hs
  obtain ⟨hB_o, fr_o, w0, w1⟩ := hs
  show T (l_X9_survey_2 x2 o x3) _
  unfold l_X9_survey_2
  refine T_qLt ⟨by omega, by omega⟩ ⟨by decide, by decide⟩ (fun h5 => ?_) (fun h5 => ?_)
  ·
    refine T_qIn ⟨by omega, by omega⟩ ?_
    refine T_qNm (fun o10 e_o10 => ?_)
    have hB_o10 : BoxC o10 := by rw [e_o10]; exact Box.s2 hB_o
    have fr_o10 : Fr [(72, 9999)] i_o o10 := by rw [e_o10]; exact Fr.s2 fr_o rfl
    have op10 : OPN o10 x3 := by rw [e_o10]; exact OPN_72 w1 (by omega) _
    have ow10 : OPW o10 x3 := by rw [e_o10]; exact OPW_0
    unfold e_X9_survey_17
    refine T_qB (tl_X9_survey_17 x2 x3 o10 0 hB_o10 (by omega) (by omega) (by omega) (by first | assumption | exact OPN_0 | (have q9 := w1; rwa [show x3 = 4 by omega] at q9)) (by assumption)) (fun r6 hc_r6 hp7 => ?_)
    obtain ⟨o_8, q_o_8⟩ : ∃ q, q = r6 := ⟨_, rfl⟩
    subst q_o_8
    replace hp7 : BoxC o_8 ∧ (Fr [(72, 9999)] o10 o_8) ∧ (OPN o_8 x3) ∧ (OPW o_8 x3) := hp7
    have hps_hp7 := hp7
    obtain ⟨hp7_0, hp7_1, hp7_2, hp7_3⟩ := hps_hp7
    obtain ⟨hB_o_8, fc_o_8, hp7⟩ := hp7
    replace hp7 := hid hp7
    have fr_o_8 : Fr [(72, 9999)] i_o o_8 := Fr.tr fr_o10 fc_o_8 rfl
    show T (b_X9_survey_57 o_8 x2 x3) _
    unfold b_X9_survey_57
    refine T_some ?_
    show (BoxC o_8 ∧ (Fr [(72, 9999)] i_o o_8) ∧ (0 ≤ (x3 + 1) ∧ (x3 + 1) ≤ 4) ∧ (OPN o_8 (x3 + 1))) ∧ (4 - (x3 + 1)).toNat < (4 - x3).toNat
    exact ⟨⟨hB_o_8, fr_o_8, (by omega), (by first | assumption | exact OPN_s (by assumption) (by assumption))⟩, by omega⟩
  ·
    refine T_some ?_
    show BoxC o ∧ (Fr [(72, 9999)] i_o o) ∧ (OPN o 4)
    exact ⟨hB_o, fr_o, (by first | assumption | exact OPN_0 | (have q9 := w1; rwa [show x3 = 4 by omega] at q9))⟩
set_option maxRecDepth 20000 in
set_option maxHeartbeats 4000000 in
theorem t_X9_survey (o : OO) (x2 : Int) (hB_o : BoxC o) (k0 : inR x2) : T (s_X9_survey o x2) (fun v => BoxC v ∧ (Fr [(72, 9999)] o v) ∧ (OPN v 4)) := by
  have fr_o : Fr [(72, 9999)] o o := Fr.rf
  unfold s_X9_survey
  unfold e_X9_survey_2
  refine T_qB (tl_X9_survey_2 x2 o 0 hB_o (by omega) (by omega) (by first | assumption | exact OPN_0 | (have q9 := w1; rwa [show x3 = 4 by omega] at q9))) (fun r9 hc_r9 hp10 => ?_)
  obtain ⟨o_11, q_o_11⟩ : ∃ q, q = r9 := ⟨_, rfl⟩
  subst q_o_11
  replace hp10 : BoxC o_11 ∧ (Fr [(72, 9999)] o o_11) ∧ (OPN o_11 4) := hp10
  have hps_hp10 := hp10
  obtain ⟨hp10_0, hp10_1, hp10_2⟩ := hps_hp10
  obtain ⟨hB_o_11, fc_o_11, hp10⟩ := hp10
  replace hp10 := hid hp10
  have fr_o_11 : Fr [(72, 9999)] o o_11 := Fr.tr fr_o fc_o_11 rfl
  show T (b_X9_survey_63 o_11) _
  unfold b_X9_survey_63
  refine T_some ?_
  show BoxC o_11 ∧ (Fr [(72, 9999)] o o_11) ∧ (OPN o_11 4)
  exact ⟨hB_o_11, fr_o_11, (by first | assumption | exact OPN_0 | (have q9 := w1; rwa [show x3 = 4 by omega] at q9))⟩
set_option maxRecDepth 20000 in
set_option maxHeartbeats 4000000 in
theorem tl_X9_connects_9 (o : OO) (x2 : Int) (z3 : Int64) (i_z5 : Int64) (i_x7 : Int) (hB_o : BoxC o) (k0 : 0 ≤ x2 ∧ x2 ≤ 63) (v0 : 0 ≤ i_x7 ∧ i_x7 ≤ 64) : T (loopW (fun s => l_X9_connects_9 o x2 z3 s.1 s.2) (i_z5, i_x7)) (Sum.elim (fun r => True) (fun _ => True)) := by
  refine T_loop (fun s => (0 ≤ s.2 ∧ s.2 ≤ 64)) (fun s => (64 - s.2).toNat) (by exact v0) (fun s hs => ?_)
  obtain ⟨z5, x7⟩ := s
  replace hs : (0 ≤ x7 ∧ x7 ≤ 64) := hs
  have w0 := hs
  show T (l_X9_connects_9 o x2 z3 z5 x7) _
  unfold l_X9_connects_9
  refine T_qLt ⟨by omega, by omega⟩ ⟨by decide, by decide⟩ (fun h1 => ?_) (fun h1 => ?_)
  ·
    refine T_qNm (fun m3 e_m3 => ?_)
    refine T_qNm (fun m4 e_m4 => ?_)
    refine T_qNm (fun m5 e_m5 => ?_)
    refine T_qNm (fun m6 e_m6 => ?_)
    refine T_qNm (fun m7 e_m7 => ?_)
    refine T_qNm (fun m8 e_m8 => ?_)
    refine T_qJe (fun h2 => ?_) (fun h2 => ?_)
    ·
      refine T_some ?_
      show True
      exact trivial
    ·
      refine T_qB (t_X3_has m8 x2) (fun r9 hc_r9 hp3 => ?_)
      replace hp3 : (0 ≤ r9 ∧ r9 ≤ 1) ∧ (HBT m8 x2 r9) := hp3
      have hps_hp3 := hp3
      obtain ⟨hp3_0, hp3_1⟩ := hps_hp3
      replace hp3 := hid hp3
      refine T_qEq ⟨by omega, by omega⟩ ⟨by decide, by decide⟩ (fun h4 => ?_) (fun h4 => ?_)
      ·
        refine T_some ?_
        show ((0 ≤ (x7 + 1) ∧ (x7 + 1) ≤ 64)) ∧ (64 - (x7 + 1)).toNat < (64 - x7).toNat
        exact ⟨(by omega), by omega⟩
      ·
        refine T_some ?_
        show True
        exact trivial
  ·
    refine T_some ?_
    show True
    exact trivial
set_option maxRecDepth 20000 in
set_option maxHeartbeats 4000000 in
theorem t_X9_connects (o : OO) (x1 : Int) (x2 : Int) (z3 : Int64) (hB_o : BoxC o) (k0 : 0 ≤ x1 ∧ x1 ≤ 63) (k1 : 0 ≤ x2 ∧ x2 ≤ 63) : T (s_X9_connects o x1 x2 z3) (fun v => (0 ≤ v ∧ v ≤ 1)) := by
  unfold s_X9_connects
  refine T_qB (t_X3_bit x1) (fun p11 hc_p11 hp5 => ?_)
  replace hp5 : (p11 = jshl 1 (Int32.ofInt x1)) := hp5
  unfold e_X9_connects_9
  refine T_qB (tl_X9_connects_9 o x2 z3 p11 0 hB_o (by omega) (by omega)) (fun r6 hc_r6 hp7 => ?_)
  rcases r6 with r6 | r6
  ·
    obtain ⟨z8_8, q_z8_8⟩ : ∃ q, q = r6 := ⟨_, rfl⟩
    subst q_z8_8
    show T (b_X9_connects_97 o x2 z8_8) _
    unfold b_X9_connects_97
    refine T_qB (t_X3_has z8_8 x2) (fun r1 hc_r1 hp9 => ?_)
    replace hp9 : (0 ≤ r1 ∧ r1 ≤ 1) ∧ (HBT z8_8 x2 r1) := hp9
    have hps_hp9 := hp9
    obtain ⟨hp9_0, hp9_1⟩ := hps_hp9
    replace hp9 := hid hp9
    refine T_qZ (by omega) ?_
    refine T_some ?_
    show (0 ≤ r1 ∧ r1 ≤ 1)
    exact (by omega)
  ·
    show T (b_X9_connects_114 o) _
    unfold b_X9_connects_114
    refine T_qZ (Or.inl rfl) ?_
    refine T_some ?_
    show (0 ≤ 0 ∧ 0 ≤ 1)
    exact (by omega)
set_option maxRecDepth 20000 in
set_option maxHeartbeats 4000000 in
theorem tl_J7_fill_53178__75_5 (x1 : Int) (x3 : Int) (i_o : OO) (i_x2 : Int) (hB_i_o : BoxC i_o) (k0 : -2147483648 ≤ x1 ∧ x1 ≤ 2147483647) (k1 : x3 = 64) (v0 : 0 ≤ i_x2 ∧ i_x2 ≤ 64) (v1 : FP i_o 75 i_x2 x1) : T (loopW (fun s => l_J7_fill_53178__75_5 x1 x3 s.1 s.2) (i_o, i_x2)) (fun r => BoxC r ∧ (Fr [(75, 9999)] i_o r) ∧ (FP r 75 64 x1)) := by
  have fr_i_o : Fr [(75, 9999)] i_o i_o := Fr.rf
  refine T_loop (fun s => BoxC s.1 ∧ (Fr [(75, 9999)] i_o s.1) ∧ (0 ≤ s.2 ∧ s.2 ≤ 64) ∧ (FP s.1 75 s.2 x1)) (fun s => (64 - s.2).toNat) (by exact ⟨hB_i_o, fr_i_o, v0, v1⟩) (fun s hs => ?_)
  obtain ⟨o, x2⟩ := s
  replace hs : BoxC o ∧ (Fr [(75, 9999)] i_o o) ∧ (0 ≤ x2 ∧ x2 ≤ 64) ∧ (FP o 75 x2 x1) := hs
  obtain ⟨hB_o, fr_o, w0, w1⟩ := hs
  show T (l_J7_fill_53178__75_5 x1 x3 o x2) _
  unfold l_J7_fill_53178__75_5
  refine T_qLt ⟨by omega, by omega⟩ ⟨by omega, by omega⟩ (fun h1 => ?_) (fun h1 => ?_)
  ·
    refine T_qIn ⟨by omega, by omega⟩ ?_
    refine T_qNm (fun o2 e_o2 => ?_)
    have hB_o2 : BoxC o2 := by rw [e_o2]; exact Box.s1 hB_o (show -2147483648 ≤ x1 ∧ x1 ≤ 2147483647 from ⟨by omega, by omega⟩)
    have fr_o2 : Fr [(75, 9999)] i_o o2 := by rw [e_o2]; exact Fr.s1 fr_o rfl
    refine T_some ?_
    show (BoxC o2 ∧ (Fr [(75, 9999)] i_o o2) ∧ (0 ≤ (x2 + 1) ∧ (x2 + 1) ≤ 64) ∧ (FP o2 75 (x2 + 1) x1)) ∧ (64 - (x2 + 1)).toNat < (64 - x2).toNat
    exact ⟨⟨hB_o2, fr_o2, (by omega), (by first | assumption | (have q2 := w1; rwa [show x2 = 64 by omega] at q2) | exact FP_0 | (rw [e_o2]; exact FP_s w1 (by omega)))⟩, by omega⟩
  ·
    refine T_some ?_
    show BoxC o ∧ (Fr [(75, 9999)] i_o o) ∧ (FP o 75 64 x1)
    exact ⟨hB_o, fr_o, (by first | assumption | (have q2 := w1; rwa [show x2 = 64 by omega] at q2) | exact FP_0 | (rw [e_o]; exact FP_s w1 (by omega)))⟩
set_option maxRecDepth 20000 in
set_option maxHeartbeats 4000000 in
theorem t_J7_fill_53178__75 (o : OO) (x1 : Int) (hB_o : BoxC o) (k0 : -2147483648 ≤ x1 ∧ x1 ≤ 2147483647) : T (s_J7_fill_53178__75 o x1) (fun v => BoxC v ∧ (Fr [(75, 9999)] o v) ∧ (FP v 75 64 x1)) := by
  have fr_o : Fr [(75, 9999)] o o := Fr.rf
  unfold s_J7_fill_53178__75
  unfold e_J7_fill_53178__75_5
  refine T_qB (tl_J7_fill_53178__75_5 x1 64 o 0 hB_o (by omega) (by omega) (by omega) (by first | assumption | (have q2 := w1; rwa [show x2 = 64 by omega] at q2) | exact FP_0 | (rw [e_o]; exact FP_s w1 (by omega)))) (fun r2 hc_r2 hp3 => ?_)
  obtain ⟨o_4, q_o_4⟩ : ∃ q, q = r2 := ⟨_, rfl⟩
  subst q_o_4
  replace hp3 : BoxC o_4 ∧ (Fr [(75, 9999)] o o_4) ∧ (FP o_4 75 64 x1) := hp3
  have hps_hp3 := hp3
  obtain ⟨hp3_0, hp3_1, hp3_2⟩ := hps_hp3
  obtain ⟨hB_o_4, fc_o_4, hp3⟩ := hp3
  replace hp3 := hid hp3
  have fr_o_4 : Fr [(75, 9999)] o o_4 := Fr.tr fr_o fc_o_4 rfl
  show T (b_J7_fill_53178__75_20 o_4) _
  unfold b_J7_fill_53178__75_20
  refine T_some ?_
  show BoxC o_4 ∧ (Fr [(75, 9999)] o o_4) ∧ (FP o_4 75 64 x1)
  exact ⟨hB_o_4, fr_o_4, (by first | assumption | (have q2 := w1; rwa [show x2 = 64 by omega] at q2) | exact FP_0 | (rw [e_o_4]; exact FP_s w1 (by omega)))⟩
set_option maxRecDepth 20000 in
set_option maxHeartbeats 4000000 in
theorem tl_J7_fill_53178__76_5 (x1 : Int) (x3 : Int) (i_o : OO) (i_x2 : Int) (hB_i_o : BoxC i_o) (k0 : -2147483648 ≤ x1 ∧ x1 ≤ 2147483647) (k1 : x3 = 256) (v0 : 0 ≤ i_x2 ∧ i_x2 ≤ 256) (v1 : FP i_o 76 i_x2 x1) : T (loopW (fun s => l_J7_fill_53178__76_5 x1 x3 s.1 s.2) (i_o, i_x2)) (fun r => BoxC r ∧ (Fr [(76, 9999)] i_o r) ∧ (FP r 76 256 x1)) := by
  have fr_i_o : Fr [(76, 9999)] i_o i_o := Fr.rf
  refine T_loop (fun s => BoxC s.1 ∧ (Fr [(76, 9999)] i_o s.1) ∧ (0 ≤ s.2 ∧ s.2 ≤ 256) ∧ (FP s.1 76 s.2 x1)) (fun s => (256 - s.2).toNat) (by exact ⟨hB_i_o, fr_i_o, v0, v1⟩) (fun s hs => ?_)
  obtain ⟨o, x2⟩ := s
  replace hs : BoxC o ∧ (Fr [(76, 9999)] i_o o) ∧ (0 ≤ x2 ∧ x2 ≤ 256) ∧ (FP o 76 x2 x1) := hs
  obtain ⟨hB_o, fr_o, w0, w1⟩ := hs
  show T (l_J7_fill_53178__76_5 x1 x3 o x2) _
  unfold l_J7_fill_53178__76_5
  refine T_qLt ⟨by omega, by omega⟩ ⟨by omega, by omega⟩ (fun h1 => ?_) (fun h1 => ?_)
  ·
    refine T_qIn ⟨by omega, by omega⟩ ?_
    refine T_qNm (fun o2 e_o2 => ?_)
    have hB_o2 : BoxC o2 := by rw [e_o2]; exact Box.s1 hB_o (show -2147483648 ≤ x1 ∧ x1 ≤ 2147483647 from ⟨by omega, by omega⟩)
    have fr_o2 : Fr [(76, 9999)] i_o o2 := by rw [e_o2]; exact Fr.s1 fr_o rfl
    refine T_some ?_
    show (BoxC o2 ∧ (Fr [(76, 9999)] i_o o2) ∧ (0 ≤ (x2 + 1) ∧ (x2 + 1) ≤ 256) ∧ (FP o2 76 (x2 + 1) x1)) ∧ (256 - (x2 + 1)).toNat < (256 - x2).toNat
    exact ⟨⟨hB_o2, fr_o2, (by omega), (by first | assumption | (have q2 := w1; rwa [show x2 = 256 by omega] at q2) | exact FP_0 | (rw [e_o2]; exact FP_s w1 (by omega)))⟩, by omega⟩
  ·
    refine T_some ?_
    show BoxC o ∧ (Fr [(76, 9999)] i_o o) ∧ (FP o 76 256 x1)
    exact ⟨hB_o, fr_o, (by first | assumption | (have q2 := w1; rwa [show x2 = 256 by omega] at q2) | exact FP_0 | (rw [e_o]; exact FP_s w1 (by omega)))⟩
set_option maxRecDepth 20000 in
set_option maxHeartbeats 4000000 in
theorem t_J7_fill_53178__76 (o : OO) (x1 : Int) (hB_o : BoxC o) (k0 : -2147483648 ≤ x1 ∧ x1 ≤ 2147483647) : T (s_J7_fill_53178__76 o x1) (fun v => BoxC v ∧ (Fr [(76, 9999)] o v) ∧ (FP v 76 256 x1)) := by
  have fr_o : Fr [(76, 9999)] o o := Fr.rf
  unfold s_J7_fill_53178__76
  unfold e_J7_fill_53178__76_5
  refine T_qB (tl_J7_fill_53178__76_5 x1 256 o 0 hB_o (by omega) (by omega) (by omega) (by first | assumption | (have q2 := w1; rwa [show x2 = 256 by omega] at q2) | exact FP_0 | (rw [e_o]; exact FP_s w1 (by omega)))) (fun r2 hc_r2 hp3 => ?_)
  obtain ⟨o_4, q_o_4⟩ : ∃ q, q = r2 := ⟨_, rfl⟩
  subst q_o_4
  replace hp3 : BoxC o_4 ∧ (Fr [(76, 9999)] o o_4) ∧ (FP o_4 76 256 x1) := hp3
  have hps_hp3 := hp3
  obtain ⟨hp3_0, hp3_1, hp3_2⟩ := hps_hp3
  obtain ⟨hB_o_4, fc_o_4, hp3⟩ := hp3
  replace hp3 := hid hp3
  have fr_o_4 : Fr [(76, 9999)] o o_4 := Fr.tr fr_o fc_o_4 rfl
  show T (b_J7_fill_53178__76_20 o_4) _
  unfold b_J7_fill_53178__76_20
  refine T_some ?_
  show BoxC o_4 ∧ (Fr [(76, 9999)] o o_4) ∧ (FP o_4 76 256 x1)
  exact ⟨hB_o_4, fr_o_4, (by first | assumption | (have q2 := w1; rwa [show x2 = 256 by omega] at q2) | exact FP_0 | (rw [e_o_4]; exact FP_s w1 (by omega)))⟩
set_option maxRecDepth 20000 in
set_option maxHeartbeats 4000000 in
theorem tl_J7_fill_53178__73_5 (x1 : Int) (x3 : Int) (i_o : OO) (i_x2 : Int) (hB_i_o : BoxC i_o) (k0 : x1 = -9 ∨ (0 ≤ x1 ∧ x1 ≤ 127)) (k1 : x3 = 128) (v0 : 0 ≤ i_x2 ∧ i_x2 ≤ 128) (v1 : FP i_o 73 i_x2 x1) : T (loopW (fun s => l_J7_fill_53178__73_5 x1 x3 s.1 s.2) (i_o, i_x2)) (fun r => BoxC r ∧ (Fr [(73, 9999)] i_o r) ∧ (FP r 73 128 x1)) := by
  have fr_i_o : Fr [(73, 9999)] i_o i_o := Fr.rf
  refine T_loop (fun s => BoxC s.1 ∧ (Fr [(73, 9999)] i_o s.1) ∧ (0 ≤ s.2 ∧ s.2 ≤ 128) ∧ (FP s.1 73 s.2 x1)) (fun s => (128 - s.2).toNat) (by exact ⟨hB_i_o, fr_i_o, v0, v1⟩) (fun s hs => ?_)
  obtain ⟨o, x2⟩ := s
  replace hs : BoxC o ∧ (Fr [(73, 9999)] i_o o) ∧ (0 ≤ x2 ∧ x2 ≤ 128) ∧ (FP o 73 x2 x1) := hs
  obtain ⟨hB_o, fr_o, w0, w1⟩ := hs
  show T (l_J7_fill_53178__73_5 x1 x3 o x2) _
  unfold l_J7_fill_53178__73_5
  refine T_qLt ⟨by omega, by omega⟩ ⟨by omega, by omega⟩ (fun h1 => ?_) (fun h1 => ?_)
  ·
    refine T_qIn ⟨by omega, by omega⟩ ?_
    refine T_qNm (fun o2 e_o2 => ?_)
    have hB_o2 : BoxC o2 := by rw [e_o2]; exact Box.s1 hB_o (show x1 = -9 ∨ (0 ≤ x1 ∧ x1 ≤ 127) from (by omega))
    have fr_o2 : Fr [(73, 9999)] i_o o2 := by rw [e_o2]; exact Fr.s1 fr_o rfl
    refine T_some ?_
    show (BoxC o2 ∧ (Fr [(73, 9999)] i_o o2) ∧ (0 ≤ (x2 + 1) ∧ (x2 + 1) ≤ 128) ∧ (FP o2 73 (x2 + 1) x1)) ∧ (128 - (x2 + 1)).toNat < (128 - x2).toNat
    exact ⟨⟨hB_o2, fr_o2, (by omega), (by first | assumption | (have q2 := w1; rwa [show x2 = 128 by omega] at q2) | exact FP_0 | (rw [e_o2]; exact FP_s w1 (by omega)))⟩, by omega⟩
  ·
    refine T_some ?_
    show BoxC o ∧ (Fr [(73, 9999)] i_o o) ∧ (FP o 73 128 x1)
    exact ⟨hB_o, fr_o, (by first | assumption | (have q2 := w1; rwa [show x2 = 128 by omega] at q2) | exact FP_0 | (rw [e_o]; exact FP_s w1 (by omega)))⟩
set_option maxRecDepth 20000 in
set_option maxHeartbeats 4000000 in
theorem t_J7_fill_53178__73 (o : OO) (x1 : Int) (hB_o : BoxC o) (k0 : x1 = -9 ∨ (0 ≤ x1 ∧ x1 ≤ 127)) : T (s_J7_fill_53178__73 o x1) (fun v => BoxC v ∧ (Fr [(73, 9999)] o v) ∧ (FP v 73 128 x1)) := by
  have fr_o : Fr [(73, 9999)] o o := Fr.rf
  unfold s_J7_fill_53178__73
  unfold e_J7_fill_53178__73_5
  refine T_qB (tl_J7_fill_53178__73_5 x1 128 o 0 hB_o (by omega) (by omega) (by omega) (by first | assumption | (have q2 := w1; rwa [show x2 = 128 by omega] at q2) | exact FP_0 | (rw [e_o]; exact FP_s w1 (by omega)))) (fun r2 hc_r2 hp3 => ?_)
  obtain ⟨o_4, q_o_4⟩ : ∃ q, q = r2 := ⟨_, rfl⟩
  subst q_o_4
  replace hp3 : BoxC o_4 ∧ (Fr [(73, 9999)] o o_4) ∧ (FP o_4 73 128 x1) := hp3
  have hps_hp3 := hp3
  obtain ⟨hp3_0, hp3_1, hp3_2⟩ := hps_hp3
  obtain ⟨hB_o_4, fc_o_4, hp3⟩ := hp3
  replace hp3 := hid hp3
  have fr_o_4 : Fr [(73, 9999)] o o_4 := Fr.tr fr_o fc_o_4 rfl
  show T (b_J7_fill_53178__73_20 o_4) _
  unfold b_J7_fill_53178__73_20
  refine T_some ?_
  show BoxC o_4 ∧ (Fr [(73, 9999)] o o_4) ∧ (FP o_4 73 128 x1)
  exact ⟨hB_o_4, fr_o_4, (by first | assumption | (have q2 := w1; rwa [show x2 = 128 by omega] at q2) | exact FP_0 | (rw [e_o_4]; exact FP_s w1 (by omega)))⟩
set_option maxRecDepth 20000 in
set_option maxHeartbeats 4000000 in
theorem t_X9_visit (o : OO) (x1 : Int) (x2 : Int) (hB_o : BoxC o) (k0 : 0 ≤ x1 ∧ x1 ≤ 127) (k1 : 0 ≤ x2 ∧ x2 ≤ 127) (k2 : o.1 71 5 = CG (o.1 73) 128) : T (s_X9_visit o x1 x2) (fun v => BoxC v ∧ (Fr [(71, 5), (73, 9999), (74, 9999)] o v) ∧ (v.1 71 5 = CG (v.1 73) 128)) := by
  have fr_o : Fr [(71, 5), (73, 9999), (74, 9999)] o o := Fr.rf
  have g71_5_o := bC_71_5 hB_o
  unfold s_X9_visit
  refine T_qIn ⟨by omega, by omega⟩ ?_
  refine T_qNm (fun n2 e_n2 => ?_)
  have b_n2 : n2 = -9 ∨ (0 ≤ n2 ∧ n2 ≤ 127) := by rw [e_n2]; exact bC_73 hB_o _
  have cl2 : n2 = -9 → CG (o.1 73) 128 < 128 := fun e => CG_lt (i := x1) (by omega) (by omega) (by omega)
  have ge2 := (CG_le (f := o.1 73) (n := 128) (by omega)).2
  refine T_qEq ⟨by omega, by omega⟩ ⟨by decide, by decide⟩ (fun h1 => ?_) (fun h1 => ?_)
  ·
    refine T_qIn ⟨by omega, by omega⟩ ?_
    refine T_qNm (fun o4 e_o4 => ?_)
    have hB_o4 : BoxC o4 := by rw [e_o4]; exact Box.s1 hB_o (show x2 = -9 ∨ (0 ≤ x2 ∧ x2 ≤ 127) from (by omega))
    have fr_o4 : Fr [(71, 5), (73, 9999), (74, 9999)] o o4 := by rw [e_o4]; exact Fr.s1 fr_o rfl
    have g71_5_o4 : o4.1 71 5 = o.1 71 5 := by rw [e_o4]; rfl
    have cl4 := cl2 (by omega)
    have cg4 : CG (o4.1 73) 128 = CG (o.1 73) 128 + 1 := by rw [e_o4]; exact CG_upd (by omega) (by omega) (by omega) (by omega)
    refine T_qIn ⟨by omega, by omega⟩ ?_
    refine T_qNm (fun o6 e_o6 => ?_)
    have hB_o6 : BoxC o6 := by rw [e_o6]; exact Box.s1 hB_o4 (show 0 ≤ x1 ∧ x1 ≤ 127 from ⟨by omega, by omega⟩)
    have fr_o6 : Fr [(71, 5), (73, 9999), (74, 9999)] o o6 := by rw [e_o6]; exact Fr.s1 fr_o4 rfl
    have g71_5_o6 : o6.1 71 5 = o4.1 71 5 := by rw [e_o6]; rfl
    refine T_qNm (fun o7 e_o7 => ?_)
    have hB_o7 : BoxC o7 := by rw [e_o7]; exact Box.s1 hB_o6 (show 0 ≤ ((o6.1 71 5) + 1) ∧ ((o6.1 71 5) + 1) ≤ 128 from ⟨by omega, by omega⟩)
    have fr_o7 : Fr [(71, 5), (73, 9999), (74, 9999)] o o7 := by rw [e_o7]; exact Fr.s1 fr_o6 rfl
    have g71_5_o7 : o7.1 71 5 = ((o6.1 71 5) + 1) := by rw [e_o7]; rfl
    have cg7 : CG (o7.1 73) 128 = CG (o4.1 73) 128 := by rw [e_o7, e_o6]; rfl
    refine T_some ?_
    show BoxC o7 ∧ (Fr [(71, 5), (73, 9999), (74, 9999)] o o7) ∧ (o7.1 71 5 = CG (o7.1 73) 128)
    exact ⟨hB_o7, fr_o7, (by omega)⟩
  ·
    refine T_some ?_
    show BoxC o ∧ (Fr [(71, 5), (73, 9999), (74, 9999)] o o) ∧ (o.1 71 5 = CG (o.1 73) 128)
    exact ⟨hB_o, fr_o, (by omega)⟩
set_option maxRecDepth 20000 in
set_option maxHeartbeats 4000000 in
theorem tl_X9_leave_2 (x1 : Int) (i_o : OO) (i_x2 : Int) (hB_i_o : BoxC i_o) (k0 : 0 ≤ x1 ∧ x1 ≤ 63) (k1 : OPN i_o 4) (v0 : 0 ≤ i_x2 ∧ i_x2 ≤ 4) (v1 : i_o.1 71 5 = CG (i_o.1 73) 128) : T (loopW (fun s => l_X9_leave_2 x1 s.1 s.2) (i_o, i_x2)) (fun r => BoxC r ∧ (Fr [(71, 5), (73, 9999), (74, 9999)] i_o r) ∧ (r.1 71 5 = CG (r.1 73) 128)) := by
  have fr_i_o : Fr [(71, 5), (73, 9999), (74, 9999)] i_o i_o := Fr.rf
  refine T_loop (fun s => BoxC s.1 ∧ (Fr [(71, 5), (73, 9999), (74, 9999)] i_o s.1) ∧ (0 ≤ s.2 ∧ s.2 ≤ 4) ∧ (s.1.1 71 5 = CG (s.1.1 73) 128)) (fun s => (4 - s.2).toNat) (by exact ⟨hB_i_o, fr_i_o, v0, v1⟩) (fun s hs => ?_)
  obtain ⟨o, x2⟩ := s
  replace hs : BoxC o ∧ (Fr [(71, 5), (73, 9999), (74, 9999)] i_o o) ∧ (0 ≤ x2 ∧ x2 ≤ 4) ∧ (o.1 71 5 = CG (o.1 73) 128) := hs
  obtain ⟨hB_o, fr_o, w0, w1⟩ := hs
  have g71_5_i := bC_71_5 hB_i_o
  have g71_5_o := bC_71_5 hB_o
  have op9 : OPN o 4 := OPN.cg (show OPN i_o 4 by assumption) (fun j => fr_o.2 72 j rfl)
  show T (l_X9_leave_2 x1 o x2) _
  unfold l_X9_leave_2
  refine T_qLt ⟨by omega, by omega⟩ ⟨by decide, by decide⟩ (fun h1 => ?_) (fun h1 => ?_)
  ·
    refine T_qIn ⟨by omega, by omega⟩ ?_
    refine T_qNm (fun m7 e_m7 => ?_)
    refine T_qB (t_X3_has m7 x1) (fun r8 hc_r8 hp2 => ?_)
    replace hp2 : (0 ≤ r8 ∧ r8 ≤ 1) ∧ (HBT m7 x1 r8) := hp2
    have hps_hp2 := hp2
    obtain ⟨hp2_0, hp2_1⟩ := hps_hp2
    replace hp2 := hid hp2
    have hb8 : ¬ r8 = 0 → 0 ≤ bsd x1 x2 := fun e => op9 x2 (by omega) (by omega) x1 (by omega) (by omega) (by rw [← e_m7]; exact hp2_1.yes (by omega) e)
    refine T_qEq ⟨by omega, by omega⟩ ⟨by decide, by decide⟩ (fun h3 => ?_) (fun h3 => ?_)
    ·
      unfold b_X9_leave_33
      refine T_some ?_
      show (BoxC o ∧ (Fr [(71, 5), (73, 9999), (74, 9999)] i_o o) ∧ (0 ≤ (x2 + 1) ∧ (x2 + 1) ≤ 4) ∧ (o.1 71 5 = CG (o.1 73) 128)) ∧ (4 - (x2 + 1)).toNat < (4 - x2).toNat
      exact ⟨⟨hB_o, fr_o, (by omega), (by omega)⟩, by omega⟩
    ·
      refine T_qB (t_X3_beside x1 x2 (by omega) (by omega)) (fun r10 hc_r10 hp4 => ?_)
      replace hp4 : (r10 = -9 ∨ (0 ≤ r10 ∧ r10 ≤ 63 ∧ (x2 = 0 ∧ r10 = x1 - 8 ∨ x2 = 1 ∧ r10 = x1 - 1 ∨ x2 = 2 ∧ r10 = x1 + 1 ∨ x2 = 3 ∧ r10 = x1 + 8))) ∧ (r10 = bsd x1 x2) := hp4
      have hps_hp4 := hp4
      obtain ⟨hp4_0, hp4_1⟩ := hps_hp4
      replace hp4 := hid hp4
      have hb10 := hb8 (by omega)
      refine T_qB (t_X9_visit o r10 (64 + x1) hB_o (by omega) (by omega) (by omega)) (fun o14 hc_o14 hp5 => ?_)
      replace hp5 : BoxC o14 ∧ (Fr [(71, 5), (73, 9999), (74, 9999)] o o14) ∧ (o14.1 71 5 = CG (o14.1 73) 128) := hp5
      obtain ⟨hB_o14, fc_o14, hp5⟩ := hp5
      have fr_o14 : Fr [(71, 5), (73, 9999), (74, 9999)] i_o o14 := Fr.tr fr_o fc_o14 rfl
      have g71_5_o14 := bC_71_5 hB_o14
      unfold b_X9_leave_33
      refine T_some ?_
      show (BoxC o14 ∧ (Fr [(71, 5), (73, 9999), (74, 9999)] i_o o14) ∧ (0 ≤ (x2 + 1) ∧ (x2 + 1) ≤ 4) ∧ (o14.1 71 5 = CG (o14.1 73) 128)) ∧ (4 - (x2 + 1)).toNat < (4 - x2).toNat
      exact ⟨⟨hB_o14, fr_o14, (by omega), (by omega)⟩, by omega⟩
  ·
    refine T_some ?_
    show BoxC o ∧ (Fr [(71, 5), (73, 9999), (74, 9999)] i_o o) ∧ (o.1 71 5 = CG (o.1 73) 128)
    exact ⟨hB_o, fr_o, (by omega)⟩
set_option maxRecDepth 20000 in
set_option maxHeartbeats 4000000 in
theorem t_X9_leave (o : OO) (x1 : Int) (hB_o : BoxC o) (k0 : 0 ≤ x1 ∧ x1 ≤ 63) (k1 : o.1 71 5 = CG (o.1 73) 128) (k2 : OPN o 4) : T (s_X9_leave o x1) (fun v => BoxC v ∧ (Fr [(71, 5), (73, 9999), (74, 9999)] o v) ∧ (v.1 71 5 = CG (v.1 73) 128)) := by
  have fr_o : Fr [(71, 5), (73, 9999), (74, 9999)] o o := Fr.rf
  have g71_5_o := bC_71_5 hB_o
  unfold s_X9_leave
  unfold e_X9_leave_2
  refine T_qB (tl_X9_leave_2 x1 o 0 hB_o (by omega) (by assumption) (by omega) (by omega)) (fun r6 hc_r6 hp7 => ?_)
  obtain ⟨o_8, q_o_8⟩ : ∃ q, q = r6 := ⟨_, rfl⟩
  subst q_o_8
  replace hp7 : BoxC o_8 ∧ (Fr [(71, 5), (73, 9999), (74, 9999)] o o_8) ∧ (o_8.1 71 5 = CG (o_8.1 73) 128) := hp7
  have hps_hp7 := hp7
  obtain ⟨hp7_0, hp7_1, hp7_2⟩ := hps_hp7
  obtain ⟨hB_o_8, fc_o_8, hp7⟩ := hp7
  replace hp7 := hid hp7
  have fr_o_8 : Fr [(71, 5), (73, 9999), (74, 9999)] o o_8 := Fr.tr fr_o fc_o_8 rfl
  have g71_5_o_8 := bC_71_5 hB_o_8
  show T (b_X9_leave_39 o_8 x1) _
  unfold b_X9_leave_39
  refine T_qIn ⟨by omega, by omega⟩ ?_
  refine T_qNm (fun n2 e_n2 => ?_)
  have b_n2 : -2147483648 ≤ n2 ∧ n2 ≤ 2147483647 := by rw [e_n2]; exact bC_75 hB_o_8 _
  refine T_qLt ⟨by decide, by decide⟩ ⟨by omega, by omega⟩ (fun h9 => ?_) (fun h9 => ?_)
  ·
    refine T_qB (t_X9_visit o_8 x1 (64 + x1) hB_o_8 (by omega) (by omega) (by omega)) (fun o5 hc_o5 hp10 => ?_)
    replace hp10 : BoxC o5 ∧ (Fr [(71, 5), (73, 9999), (74, 9999)] o_8 o5) ∧ (o5.1 71 5 = CG (o5.1 73) 128) := hp10
    obtain ⟨hB_o5, fc_o5, hp10⟩ := hp10
    have fr_o5 : Fr [(71, 5), (73, 9999), (74, 9999)] o o5 := Fr.tr fr_o_8 fc_o5 rfl
    have g71_5_o5 := bC_71_5 hB_o5
    unfold b_X9_leave_57
    refine T_some ?_
    show BoxC o5 ∧ (Fr [(71, 5), (73, 9999), (74, 9999)] o o5) ∧ (o5.1 71 5 = CG (o5.1 73) 128)
    exact ⟨hB_o5, fr_o5, (by omega)⟩
  ·
    unfold b_X9_leave_57
    refine T_some ?_
    show BoxC o_8 ∧ (Fr [(71, 5), (73, 9999), (74, 9999)] o o_8) ∧ (o_8.1 71 5 = CG (o_8.1 73) 128)
    exact ⟨hB_o_8, fr_o_8, (by omega)⟩
set_option maxRecDepth 20000 in
set_option maxHeartbeats 4000000 in
theorem t_X3_back (x0 : Int) (k0 : 0 ≤ x0 ∧ x0 ≤ 3) : T (s_X3_back x0) (fun v => (v = 3 - x0)) := by
  unfold s_X3_back
  refine T_some ?_
  show ((3 - x0) = 3 - x0)
  exact (by omega)
set_option maxRecDepth 20000 in
set_option maxHeartbeats 4000000 in
theorem tl_X9_enter_21 (x1 : Int) (i_o : OO) (i_x3 : Int) (hB_i_o : BoxC i_o) (k0 : 0 ≤ x1 ∧ x1 ≤ 63) (v0 : 0 ≤ i_x3 ∧ i_x3 ≤ 4) (v1 : i_o.1 71 5 = CG (i_o.1 73) 128) : T (loopW (fun s => l_X9_enter_21 x1 s.1 s.2) (i_o, i_x3)) (fun r => BoxC r ∧ (Fr [(71, 5), (73, 9999), (74, 9999)] i_o r) ∧ (r.1 71 5 = CG (r.1 73) 128)) := by
  have fr_i_o : Fr [(71, 5), (73, 9999), (74, 9999)] i_o i_o := Fr.rf
  refine T_loop (fun s => BoxC s.1 ∧ (Fr [(71, 5), (73, 9999), (74, 9999)] i_o s.1) ∧ (0 ≤ s.2 ∧ s.2 ≤ 4) ∧ (s.1.1 71 5 = CG (s.1.1 73) 128)) (fun s => (4 - s.2).toNat) (by exact ⟨hB_i_o, fr_i_o, v0, v1⟩) (fun s hs => ?_)
  obtain ⟨o, x3⟩ := s
  replace hs : BoxC o ∧ (Fr [(71, 5), (73, 9999), (74, 9999)] i_o o) ∧ (0 ≤ x3 ∧ x3 ≤ 4) ∧ (o.1 71 5 = CG (o.1 73) 128) := hs
  obtain ⟨hB_o, fr_o, w0, w1⟩ := hs
  have g71_5_i := bC_71_5 hB_i_o
  have g71_5_o := bC_71_5 hB_o
  show T (l_X9_enter_21 x1 o x3) _
  unfold l_X9_enter_21
  refine T_qLt ⟨by omega, by omega⟩ ⟨by decide, by decide⟩ (fun h1 => ?_) (fun h1 => ?_)
  ·
    refine T_qB (t_X3_beside x1 x3 (by omega) (by omega)) (fun r1 hc_r1 hp2 => ?_)
    replace hp2 : (r1 = -9 ∨ (0 ≤ r1 ∧ r1 ≤ 63 ∧ (x3 = 0 ∧ r1 = x1 - 8 ∨ x3 = 1 ∧ r1 = x1 - 1 ∨ x3 = 2 ∧ r1 = x1 + 1 ∨ x3 = 3 ∧ r1 = x1 + 8))) ∧ (r1 = bsd x1 x3) := hp2
    have hps_hp2 := hp2
    obtain ⟨hp2_0, hp2_1⟩ := hps_hp2
    replace hp2 := hid hp2
    refine T_qEq ⟨by omega, by omega⟩ ⟨by decide, by decide⟩ (fun h3 => ?_) (fun h3 => ?_)
    ·
      unfold b_X9_enter_67
      refine T_some ?_
      show (BoxC o ∧ (Fr [(71, 5), (73, 9999), (74, 9999)] i_o o) ∧ (0 ≤ (x3 + 1) ∧ (x3 + 1) ≤ 4) ∧ (o.1 71 5 = CG (o.1 73) 128)) ∧ (4 - (x3 + 1)).toNat < (4 - x3).toNat
      exact ⟨⟨hB_o, fr_o, (by omega), (by omega)⟩, by omega⟩
    ·
      refine T_qB (t_X3_back x3 (by omega)) (fun r3 hc_r3 hp4 => ?_)
      replace hp4 : (r3 = 3 - x3) := hp4
      refine T_qIn ⟨by omega, by omega⟩ ?_
      refine T_qNm (fun n6 e_n6 => ?_)
      have b_n6 : -2147483648 ≤ n6 ∧ n6 ≤ 2147483647 := by rw [e_n6]; exact bC_76 hB_o _
      refine T_qLt ⟨by decide, by decide⟩ ⟨by omega, by omega⟩ (fun h5 => ?_) (fun h5 => ?_)
      ·
        refine T_qB (t_X9_visit o (64 + r1) x1 hB_o (by omega) (by omega) (by omega)) (fun o9 hc_o9 hp6 => ?_)
        replace hp6 : BoxC o9 ∧ (Fr [(71, 5), (73, 9999), (74, 9999)] o o9) ∧ (o9.1 71 5 = CG (o9.1 73) 128) := hp6
        obtain ⟨hB_o9, fc_o9, hp6⟩ := hp6
        have fr_o9 : Fr [(71, 5), (73, 9999), (74, 9999)] i_o o9 := Fr.tr fr_o fc_o9 rfl
        have g71_5_o9 := bC_71_5 hB_o9
        unfold b_X9_enter_67
        refine T_some ?_
        show (BoxC o9 ∧ (Fr [(71, 5), (73, 9999), (74, 9999)] i_o o9) ∧ (0 ≤ (x3 + 1) ∧ (x3 + 1) ≤ 4) ∧ (o9.1 71 5 = CG (o9.1 73) 128)) ∧ (4 - (x3 + 1)).toNat < (4 - x3).toNat
        exact ⟨⟨hB_o9, fr_o9, (by omega), (by omega)⟩, by omega⟩
      ·
        unfold b_X9_enter_67
        refine T_some ?_
        show (BoxC o ∧ (Fr [(71, 5), (73, 9999), (74, 9999)] i_o o) ∧ (0 ≤ (x3 + 1) ∧ (x3 + 1) ≤ 4) ∧ (o.1 71 5 = CG (o.1 73) 128)) ∧ (4 - (x3 + 1)).toNat < (4 - x3).toNat
        exact ⟨⟨hB_o, fr_o, (by omega), (by omega)⟩, by omega⟩
  ·
    refine T_some ?_
    show BoxC o ∧ (Fr [(71, 5), (73, 9999), (74, 9999)] i_o o) ∧ (o.1 71 5 = CG (o.1 73) 128)
    exact ⟨hB_o, fr_o, (by omega)⟩
set_option maxRecDepth 20000 in
set_option maxHeartbeats 4000000 in
theorem t_X9_enter (o : OO) (x1 : Int) (x2 : Int) (hB_o : BoxC o) (k0 : 0 ≤ x1 ∧ x1 ≤ 63) (k1 : 1 ≤ x2 ∧ x2 ≤ 1000) (k2 : o.1 71 5 = CG (o.1 73) 128) : T (s_X9_enter o x1 x2) (fun v => BoxC v ∧ (Fr [(71, 5), (73, 9999), (74, 9999)] o v) ∧ (v.1 71 5 = CG (v.1 73) 128)) := by
  have fr_o : Fr [(71, 5), (73, 9999), (74, 9999)] o o := Fr.rf
  have g71_5_o := bC_71_5 hB_o
  unfold s_X9_enter
  refine T_qIn ⟨by omega, by omega⟩ ?_
  refine T_qNm (fun n11 e_n11 => ?_)
  have b_n11 : -2147483648 ≤ n11 ∧ n11 ≤ 2147483647 := by rw [e_n11]; exact bC_75 hB_o _
  refine T_qLt ⟨by omega, by omega⟩ ⟨by omega, by omega⟩ (fun h7 => ?_) (fun h7 => ?_)
  ·
    refine T_qB (t_X9_visit o (64 + x1) x1 hB_o (by omega) (by omega) (by omega)) (fun o14 hc_o14 hp8 => ?_)
    replace hp8 : BoxC o14 ∧ (Fr [(71, 5), (73, 9999), (74, 9999)] o o14) ∧ (o14.1 71 5 = CG (o14.1 73) 128) := hp8
    obtain ⟨hB_o14, fc_o14, hp8⟩ := hp8
    have fr_o14 : Fr [(71, 5), (73, 9999), (74, 9999)] o o14 := Fr.tr fr_o fc_o14 rfl
    have g71_5_o14 := bC_71_5 hB_o14
    unfold b_X9_enter_19
    unfold e_X9_enter_21
    refine T_qB (tl_X9_enter_21 x1 o14 0 hB_o14 (by omega) (by omega) (by omega)) (fun r9 hc_r9 hp10 => ?_)
    obtain ⟨o_11, q_o_11⟩ : ∃ q, q = r9 := ⟨_, rfl⟩
    subst q_o_11
    replace hp10 : BoxC o_11 ∧ (Fr [(71, 5), (73, 9999), (74, 9999)] o14 o_11) ∧ (o_11.1 71 5 = CG (o_11.1 73) 128) := hp10
    have hps_hp10 := hp10
    obtain ⟨hp10_0, hp10_1, hp10_2⟩ := hps_hp10
    obtain ⟨hB_o_11, fc_o_11, hp10⟩ := hp10
    replace hp10 := hid hp10
    have fr_o_11 : Fr [(71, 5), (73, 9999), (74, 9999)] o o_11 := Fr.tr fr_o14 fc_o_11 rfl
    have g71_5_o_11 := bC_71_5 hB_o_11
    show T (b_X9_enter_73 o_11) _
    unfold b_X9_enter_73
    refine T_some ?_
    show BoxC o_11 ∧ (Fr [(71, 5), (73, 9999), (74, 9999)] o o_11) ∧ (o_11.1 71 5 = CG (o_11.1 73) 128)
    exact ⟨hB_o_11, fr_o_11, (by omega)⟩
  ·
    unfold b_X9_enter_19
    unfold e_X9_enter_21
    refine T_qB (tl_X9_enter_21 x1 o 0 hB_o (by omega) (by omega) (by omega)) (fun r12 hc_r12 hp13 => ?_)
    obtain ⟨o_14, q_o_14⟩ : ∃ q, q = r12 := ⟨_, rfl⟩
    subst q_o_14
    replace hp13 : BoxC o_14 ∧ (Fr [(71, 5), (73, 9999), (74, 9999)] o o_14) ∧ (o_14.1 71 5 = CG (o_14.1 73) 128) := hp13
    have hps_hp13 := hp13
    obtain ⟨hp13_0, hp13_1, hp13_2⟩ := hps_hp13
    obtain ⟨hB_o_14, fc_o_14, hp13⟩ := hp13
    replace hp13 := hid hp13
    have fr_o_14 : Fr [(71, 5), (73, 9999), (74, 9999)] o o_14 := Fr.tr fr_o fc_o_14 rfl
    have g71_5_o_14 := bC_71_5 hB_o_14
    show T (b_X9_enter_73 o_14) _
    unfold b_X9_enter_73
    refine T_some ?_
    show BoxC o_14 ∧ (Fr [(71, 5), (73, 9999), (74, 9999)] o o_14) ∧ (o_14.1 71 5 = CG (o_14.1 73) 128)
    exact ⟨hB_o_14, fr_o_14, (by omega)⟩
set_option maxRecDepth 20000 in
set_option maxHeartbeats 4000000 in
theorem tl_X9_search_29 (x2 : Int) (z3 : Int64) (i_o : OO) (i_x5 : Int) (hB_i_o : BoxC i_o) (k0 : 0 ≤ x2 ∧ x2 ≤ 63) (k1 : OPN i_o 4) (v0 : 0 ≤ i_x5 ∧ i_x5 ≤ 128) (v1 : i_o.1 71 5 = CG (i_o.1 73) 128) : T (loopW (fun s => l_X9_search_29 x2 z3 s.1 s.2) (i_o, i_x5)) (fun r => BoxC r ∧ (Fr [(71, 5), (73, 9999), (74, 9999)] i_o r)) := by
  have fr_i_o : Fr [(71, 5), (73, 9999), (74, 9999)] i_o i_o := Fr.rf
  refine T_loop (fun s => BoxC s.1 ∧ (Fr [(71, 5), (73, 9999), (74, 9999)] i_o s.1) ∧ (0 ≤ s.2 ∧ s.2 ≤ 128) ∧ (s.1.1 71 5 = CG (s.1.1 73) 128)) (fun s => (128 - s.2).toNat) (by exact ⟨hB_i_o, fr_i_o, v0, v1⟩) (fun s hs => ?_)
  obtain ⟨o, x5⟩ := s
  replace hs : BoxC o ∧ (Fr [(71, 5), (73, 9999), (74, 9999)] i_o o) ∧ (0 ≤ x5 ∧ x5 ≤ 128) ∧ (o.1 71 5 = CG (o.1 73) 128) := hs
  obtain ⟨hB_o, fr_o, w0, w1⟩ := hs
  have g71_5_i := bC_71_5 hB_i_o
  have g71_5_o := bC_71_5 hB_o
  have op9 : OPN o 4 := OPN.cg (show OPN i_o 4 by assumption) (fun j => fr_o.2 72 j rfl)
  show T (l_X9_search_29 x2 z3 o x5) _
  unfold l_X9_search_29
  refine T_qLt ⟨by omega, by omega⟩ ⟨by decide, by decide⟩ (fun h1 => ?_) (fun h1 => ?_)
  ·
    refine T_qLt ⟨by omega, by omega⟩ ⟨by omega, by omega⟩ (fun h2 => ?_) (fun h2 => ?_)
    ·
      refine T_qIn ⟨by omega, by omega⟩ ?_
      refine T_qNm (fun n7 e_n7 => ?_)
      have b_n7 : n7 = -9 ∨ (0 ≤ n7 ∧ n7 ≤ 127) := by rw [e_n7]; exact bC_73 hB_o _
      refine T_qEq ⟨by omega, by omega⟩ ⟨by decide, by decide⟩ (fun h3 => ?_) (fun h3 => ?_)
      ·
        refine T_qIn ⟨by omega, by omega⟩ ?_
        refine T_qNm (fun n9 e_n9 => ?_)
        have b_n9 : 0 ≤ n9 ∧ n9 ≤ 127 := by rw [e_n9]; exact bC_74 hB_o _
        refine T_qLt ⟨by omega, by omega⟩ ⟨by decide, by decide⟩ (fun h4 => ?_) (fun h4 => ?_)
        ·
          refine T_qB (t_X3_has z3 n9) (fun r10 hc_r10 hp5 => ?_)
          replace hp5 : (0 ≤ r10 ∧ r10 ≤ 1) ∧ (HBT z3 n9 r10) := hp5
          have hps_hp5 := hp5
          obtain ⟨hp5_0, hp5_1⟩ := hps_hp5
          replace hp5 := hid hp5
          refine T_qEq ⟨by omega, by omega⟩ ⟨by decide, by decide⟩ (fun h6 => ?_) (fun h6 => ?_)
          ·
            unfold b_X9_search_104
            refine T_qB (t_X9_enter o n9 1000 hB_o (by omega) (by omega) (by omega)) (fun o5 hc_o5 hp7 => ?_)
            replace hp7 : BoxC o5 ∧ (Fr [(71, 5), (73, 9999), (74, 9999)] o o5) ∧ (o5.1 71 5 = CG (o5.1 73) 128) := hp7
            obtain ⟨hB_o5, fc_o5, hp7⟩ := hp7
            have fr_o5 : Fr [(71, 5), (73, 9999), (74, 9999)] i_o o5 := Fr.tr fr_o fc_o5 rfl
            have g71_5_o5 := bC_71_5 hB_o5
            unfold b_X9_search_107
            refine T_some ?_
            show (BoxC o5 ∧ (Fr [(71, 5), (73, 9999), (74, 9999)] i_o o5) ∧ (0 ≤ (x5 + 1) ∧ (x5 + 1) ≤ 128) ∧ (o5.1 71 5 = CG (o5.1 73) 128)) ∧ (128 - (x5 + 1)).toNat < (128 - x5).toNat
            exact ⟨⟨hB_o5, fr_o5, (by omega), (by omega)⟩, by omega⟩
          ·
            unfold b_X9_search_104
            refine T_qB (t_X9_enter o n9 1 hB_o (by omega) (by omega) (by omega)) (fun o5 hc_o5 hp8 => ?_)
            replace hp8 : BoxC o5 ∧ (Fr [(71, 5), (73, 9999), (74, 9999)] o o5) ∧ (o5.1 71 5 = CG (o5.1 73) 128) := hp8
            obtain ⟨hB_o5, fc_o5, hp8⟩ := hp8
            have fr_o5 : Fr [(71, 5), (73, 9999), (74, 9999)] i_o o5 := Fr.tr fr_o fc_o5 rfl
            have g71_5_o5 := bC_71_5 hB_o5
            unfold b_X9_search_107
            refine T_some ?_
            show (BoxC o5 ∧ (Fr [(71, 5), (73, 9999), (74, 9999)] i_o o5) ∧ (0 ≤ (x5 + 1) ∧ (x5 + 1) ≤ 128) ∧ (o5.1 71 5 = CG (o5.1 73) 128)) ∧ (128 - (x5 + 1)).toNat < (128 - x5).toNat
            exact ⟨⟨hB_o5, fr_o5, (by omega), (by omega)⟩, by omega⟩
        ·
          refine T_qB (t_X9_leave o (n9 - 64) hB_o (by omega) (by omega) (by assumption)) (fun o14 hc_o14 hp9 => ?_)
          replace hp9 : BoxC o14 ∧ (Fr [(71, 5), (73, 9999), (74, 9999)] o o14) ∧ (o14.1 71 5 = CG (o14.1 73) 128) := hp9
          obtain ⟨hB_o14, fc_o14, hp9⟩ := hp9
          have fr_o14 : Fr [(71, 5), (73, 9999), (74, 9999)] i_o o14 := Fr.tr fr_o fc_o14 rfl
          have g71_5_o14 := bC_71_5 hB_o14
          unfold b_X9_search_107
          refine T_some ?_
          show (BoxC o14 ∧ (Fr [(71, 5), (73, 9999), (74, 9999)] i_o o14) ∧ (0 ≤ (x5 + 1) ∧ (x5 + 1) ≤ 128) ∧ (o14.1 71 5 = CG (o14.1 73) 128)) ∧ (128 - (x5 + 1)).toNat < (128 - x5).toNat
          exact ⟨⟨hB_o14, fr_o14, (by omega), (by omega)⟩, by omega⟩
      ·
        refine T_some ?_
        show BoxC o ∧ (Fr [(71, 5), (73, 9999), (74, 9999)] i_o o)
        exact ⟨hB_o, fr_o⟩
    ·
      refine T_some ?_
      show BoxC o ∧ (Fr [(71, 5), (73, 9999), (74, 9999)] i_o o)
      exact ⟨hB_o, fr_o⟩
  ·
    refine T_some ?_
    show BoxC o ∧ (Fr [(71, 5), (73, 9999), (74, 9999)] i_o o)
    exact ⟨hB_o, fr_o⟩
set_option maxRecDepth 20000 in
set_option maxHeartbeats 4000000 in
theorem t_X9_search (o : OO) (x1 : Int) (x2 : Int) (z3 : Int64) (hB_o : BoxC o) (k0 : 0 ≤ x1 ∧ x1 ≤ 63) (k1 : 0 ≤ x2 ∧ x2 ≤ 63) (k2 : OPN o 4) : T (s_X9_search o x1 x2 z3) (fun v => BoxC v.2 ∧ (Fr [(71, 5), (73, 9999), (74, 9999)] o v.2) ∧ (0 ≤ v.1 ∧ v.1 ≤ 1)) := by
  have fr_o : Fr [(71, 5), (73, 9999), (74, 9999)] o o := Fr.rf
  have g71_5_o := bC_71_5 hB_o
  unfold s_X9_search
  refine T_qB (t_J7_fill_53178__73 o (-9) hB_o (by omega)) (fun o17 hc_o17 hp10 => ?_)
  replace hp10 : BoxC o17 ∧ (Fr [(73, 9999)] o o17) ∧ (FP o17 73 128 (-9)) := hp10
  obtain ⟨hB_o17, fc_o17, hp10⟩ := hp10
  have fr_o17 : Fr [(71, 5), (73, 9999), (74, 9999)] o o17 := Fr.tr fr_o fc_o17 rfl
  have g71_5_o17 : o17.1 71 5 = o.1 71 5 := fc_o17.1 71 5 rfl
  have fp17 := hp10
  refine T_qNm (fun o18 e_o18 => ?_)
  have hB_o18 : BoxC o18 := by rw [e_o18]; exact Box.s1 hB_o17 (show 0 ≤ 0 ∧ 0 ≤ 128 from ⟨by omega, by omega⟩)
  have fr_o18 : Fr [(71, 5), (73, 9999), (74, 9999)] o o18 := by rw [e_o18]; exact Fr.s1 fr_o17 rfl
  have g71_5_o18 : o18.1 71 5 = 0 := by rw [e_o18]; rfl
  have vq18 : o18.1 71 5 = CG (o18.1 73) 128 := by rw [e_o18]; show (0 : Int) = CG (o17.1 73) 128; rw [CG_none (fun j hj => by rw [fp17 j hj]; decide)]
  refine T_qB (t_X9_visit o18 (64 + x1) (64 + x1) hB_o18 (by omega) (by omega) (by assumption)) (fun o21 hc_o21 hp11 => ?_)
  replace hp11 : BoxC o21 ∧ (Fr [(71, 5), (73, 9999), (74, 9999)] o18 o21) ∧ (o21.1 71 5 = CG (o21.1 73) 128) := hp11
  obtain ⟨hB_o21, fc_o21, hp11⟩ := hp11
  have fr_o21 : Fr [(71, 5), (73, 9999), (74, 9999)] o o21 := Fr.tr fr_o18 fc_o21 rfl
  have g71_5_o21 := bC_71_5 hB_o21
  have op21 : OPN o21 4 := OPN.cg (show OPN o 4 by assumption) (fun j => (fc_o21.2 72 j rfl).trans (by rw [e_o18]; exact fc_o17.2 72 j rfl))
  unfold e_X9_search_29
  refine T_qB (tl_X9_search_29 x2 z3 o21 0 hB_o21 (by omega) (by assumption) (by omega) (by omega)) (fun r12 hc_r12 hp13 => ?_)
  obtain ⟨o_14, q_o_14⟩ : ∃ q, q = r12 := ⟨_, rfl⟩
  subst q_o_14
  replace hp13 : BoxC o_14 ∧ (Fr [(71, 5), (73, 9999), (74, 9999)] o21 o_14) := hp13
  have hps_hp13 := hp13
  obtain ⟨hp13_0, hp13_1⟩ := hps_hp13
  obtain ⟨hB_o_14, fc_o_14⟩ := hp13
  have fr_o_14 : Fr [(71, 5), (73, 9999), (74, 9999)] o o_14 := Fr.tr fr_o21 fc_o_14 rfl
  have g71_5_o_14 := bC_71_5 hB_o_14
  show T (b_X9_search_113 o_14 x2) _
  unfold b_X9_search_113
  refine T_qIn ⟨by omega, by omega⟩ ?_
  refine T_qNm (fun n2 e_n2 => ?_)
  have b_n2 : n2 = -9 ∨ (0 ≤ n2 ∧ n2 ≤ 127) := by rw [e_n2]; exact bC_73 hB_o_14 _
  refine T_qEq ⟨by omega, by omega⟩ ⟨by decide, by decide⟩ (fun h15 => ?_) (fun h15 => ?_)
  ·
    unfold b_X9_search_129
    refine T_qZ (Or.inl rfl) ?_
    refine T_some ?_
    show BoxC o_14 ∧ (Fr [(71, 5), (73, 9999), (74, 9999)] o o_14) ∧ (0 ≤ 0 ∧ 0 ≤ 1)
    exact ⟨hB_o_14, fr_o_14, (by omega)⟩
  ·
    unfold b_X9_search_129
    refine T_qZ (Or.inr rfl) ?_
    refine T_some ?_
    show BoxC o_14 ∧ (Fr [(71, 5), (73, 9999), (74, 9999)] o o_14) ∧ (0 ≤ 1 ∧ 1 ≤ 1)
    exact ⟨hB_o_14, fr_o_14, (by omega)⟩
set_option maxRecDepth 20000 in
set_option maxHeartbeats 4000000 in
theorem t_X3_wayTo (x0 : Int) (x1 : Int) (k0 : 0 ≤ x0 ∧ x0 ≤ 63) (k1 : 0 ≤ x1 ∧ x1 ≤ 63) : T (s_X3_wayTo x0 x1) (fun v => (0 ≤ v ∧ v ≤ 3)) := by
  unfold s_X3_wayTo
  refine T_qEq ⟨by omega, by omega⟩ ⟨by omega, by omega⟩ (fun h1 => ?_) (fun h1 => ?_)
  ·
    refine T_some ?_
    show (0 ≤ 0 ∧ 0 ≤ 3)
    exact (by omega)
  ·
    refine T_qEq ⟨by omega, by omega⟩ ⟨by omega, by omega⟩ (fun h2 => ?_) (fun h2 => ?_)
    ·
      refine T_some ?_
      show (0 ≤ 1 ∧ 1 ≤ 3)
      exact (by omega)
    ·
      refine T_qEq ⟨by omega, by omega⟩ ⟨by omega, by omega⟩ (fun h3 => ?_) (fun h3 => ?_)
      ·
        unfold b_X3_wayTo_31
        refine T_some ?_
        show (0 ≤ 2 ∧ 2 ≤ 3)
        exact (by omega)
      ·
        unfold b_X3_wayTo_31
        refine T_some ?_
        show (0 ≤ 3 ∧ 3 ≤ 3)
        exact (by omega)
set_option maxRecDepth 20000 in
set_option maxHeartbeats 4000000 in
theorem tl_X9_push_5 (x1 : Int) (i_o : OO) (i_x3 : Int) (i_x4 : Int) (hB_i_o : BoxC i_o) (k0 : 0 ≤ x1 ∧ x1 ≤ 63) (k1 : BDC i_o 100000) (v0 : 0 ≤ i_x3 ∧ i_x3 ≤ 127) (v1 : 0 ≤ i_x4 ∧ i_x4 ≤ 128) (v2 : ∀ K, BDC i_o K → BDC i_o (K + i_x4)) : T (loopW (fun s => l_X9_push_5 x1 s.1 s.2.1 s.2.2) (i_o, i_x3, i_x4)) (Sum.elim (fun r => BoxC r ∧ (Fr [(75, 9999), (76, 9999)] i_o r) ∧ (∀ K, BDC i_o K → BDC r (K + 128))) (fun r => BoxC r ∧ (Fr [(75, 9999), (76, 9999)] i_o r) ∧ (∀ K, BDC i_o K → BDC r (K + 128)))) := by
  have fr_i_o : Fr [(75, 9999), (76, 9999)] i_o i_o := Fr.rf
  refine T_loop (fun s => BoxC s.1 ∧ (Fr [(75, 9999), (76, 9999)] i_o s.1) ∧ (0 ≤ s.2.1 ∧ s.2.1 ≤ 127) ∧ (0 ≤ s.2.2 ∧ s.2.2 ≤ 128) ∧ (∀ K, BDC i_o K → BDC s.1 (K + s.2.2))) (fun s => (128 - s.2.2).toNat) (by exact ⟨hB_i_o, fr_i_o, v0, v1, v2⟩) (fun s hs => ?_)
  obtain ⟨o, x3, x4⟩ := s
  replace hs : BoxC o ∧ (Fr [(75, 9999), (76, 9999)] i_o o) ∧ (0 ≤ x3 ∧ x3 ≤ 127) ∧ (0 ≤ x4 ∧ x4 ≤ 128) ∧ (∀ K, BDC i_o K → BDC o (K + x4)) := hs
  obtain ⟨hB_o, fr_o, w0, w1, w2⟩ := hs
  have bd9 := (w2 100000 (by assumption)).up (K' := 200000) (by omega)
  show T (l_X9_push_5 x1 o x3 x4) _
  unfold l_X9_push_5
  refine T_qLt ⟨by omega, by omega⟩ ⟨by decide, by decide⟩ (fun h1 => ?_) (fun h1 => ?_)
  ·
    refine T_qEq ⟨by omega, by omega⟩ ⟨by omega, by omega⟩ (fun h2 => ?_) (fun h2 => ?_)
    ·
      refine T_some ?_
      show BoxC o ∧ (Fr [(75, 9999), (76, 9999)] i_o o) ∧ (∀ K, BDC i_o K → BDC o (K + 128))
      exact ⟨hB_o, fr_o, (by first | assumption | exact (fun K hK => BDC.up hK (by omega)) | exact (fun K hK => BDC.up (w2 K hK) (by omega)))⟩
    ·
      refine T_qIn ⟨by omega, by omega⟩ ?_
      refine T_qNm (fun n20 e_n20 => ?_)
      have b_n20 : n20 = -9 ∨ (0 ≤ n20 ∧ n20 ≤ 127) := by rw [e_n20]; exact bC_73 hB_o _
      refine T_qEq ⟨by omega, by omega⟩ ⟨by decide, by decide⟩ (fun h3 => ?_) (fun h3 => ?_)
      ·
        refine T_some ?_
        show BoxC o ∧ (Fr [(75, 9999), (76, 9999)] i_o o) ∧ (∀ K, BDC i_o K → BDC o (K + 128))
        exact ⟨hB_o, fr_o, (by first | assumption | exact (fun K hK => BDC.up hK (by omega)) | exact (fun K hK => BDC.up (w2 K hK) (by omega)))⟩
      ·
        refine T_qDv ⟨⟨by omega, by omega⟩, ⟨by decide, by decide⟩, by decide⟩ ?_
        have jd4 : jq x3 64 = x3 / 64 := jq_nn (by omega)
        refine T_qNm (fun n22 e_n22 => ?_)
        refine T_qDv ⟨⟨by omega, by omega⟩, ⟨by decide, by decide⟩, by decide⟩ ?_
        have jd5 : jq n20 64 = n20 / 64 := jq_nn (by omega)
        refine T_qNm (fun n24 e_n24 => ?_)
        refine T_qLt ⟨by omega, by omega⟩ ⟨by decide, by decide⟩ (fun h6 => ?_) (fun h6 => ?_)
        ·
          unfold b_X9_push_61
          refine T_qEq ⟨by omega, by omega⟩ ⟨by omega, by omega⟩ (fun h7 => ?_) (fun h7 => ?_)
          ·
            refine T_qIn ⟨by omega, by omega⟩ ?_
            refine T_qNm (fun n18 e_n18 => ?_)
            have b_n18 : -2147483648 ≤ n18 ∧ n18 ≤ 2147483647 := by rw [e_n18]; exact bC_75 hB_o _
            have b18 := bd9.1 n22.toNat (by omega)
            refine T_qEq ⟨by decide, by decide⟩ ⟨by decide, by decide⟩ (fun h8 => ?_) (fun h8 => ?_)
            ·
              unfold b_X9_push_88
              refine T_qIn ⟨by omega, by omega⟩ ?_
              refine T_qNm (fun o2 e_o2 => ?_)
              have hB_o2 : BoxC o2 := by rw [e_o2]; exact Box.s1 hB_o (show -2147483648 ≤ (n18 + 1) ∧ (n18 + 1) ≤ 2147483647 from ⟨by omega, by omega⟩)
              have fr_o2 : Fr [(75, 9999), (76, 9999)] i_o o2 := by rw [e_o2]; exact Fr.s1 fr_o rfl
              have bk2 : ∀ K, BDC i_o K → BDC o2 (K + (x4 + 1)) := fun K hK => by rw [e_o2, ← Int.add_assoc]; exact BDC_75 (w2 K hK) (by omega) (by omega)
              unfold b_X9_push_143
              refine T_some ?_
              show (BoxC o2 ∧ (Fr [(75, 9999), (76, 9999)] i_o o2) ∧ (0 ≤ n20 ∧ n20 ≤ 127) ∧ (0 ≤ (x4 + 1) ∧ (x4 + 1) ≤ 128) ∧ (∀ K, BDC i_o K → BDC o2 (K + (x4 + 1)))) ∧ (128 - (x4 + 1)).toNat < (128 - x4).toNat
              exact ⟨⟨hB_o2, fr_o2, (by omega), (by omega), (by first | assumption | exact (fun K hK => BDC.up hK (by omega)) | exact (fun K hK => BDC.up (w2 K hK) (by omega)))⟩, by omega⟩
            ·
              unfold b_X9_push_88
              refine T_qIn ⟨by omega, by omega⟩ ?_
              refine T_qNm (fun o2 e_o2 => ?_)
              have hB_o2 : BoxC o2 := by rw [e_o2]; exact Box.s1 hB_o (show -2147483648 ≤ (n18 + (-1)) ∧ (n18 + (-1)) ≤ 2147483647 from ⟨by omega, by omega⟩)
              have fr_o2 : Fr [(75, 9999), (76, 9999)] i_o o2 := by rw [e_o2]; exact Fr.s1 fr_o rfl
              have bk2 : ∀ K, BDC i_o K → BDC o2 (K + (x4 + 1)) := fun K hK => by rw [e_o2, ← Int.add_assoc]; exact BDC_75 (w2 K hK) (by omega) (by omega)
              unfold b_X9_push_143
              refine T_some ?_
              show (BoxC o2 ∧ (Fr [(75, 9999), (76, 9999)] i_o o2) ∧ (0 ≤ n20 ∧ n20 ≤ 127) ∧ (0 ≤ (x4 + 1) ∧ (x4 + 1) ≤ 128) ∧ (∀ K, BDC i_o K → BDC o2 (K + (x4 + 1)))) ∧ (128 - (x4 + 1)).toNat < (128 - x4).toNat
              exact ⟨⟨hB_o2, fr_o2, (by omega), (by omega), (by first | assumption | exact (fun K hK => BDC.up hK (by omega)) | exact (fun K hK => BDC.up (w2 K hK) (by omega)))⟩, by omega⟩
          ·
            refine T_qEq ⟨by decide, by decide⟩ ⟨by decide, by decide⟩ (fun h9 => ?_) (fun h9 => ?_)
            ·
              refine T_qB (t_X3_wayTo n22 n24 (by omega) (by omega)) (fun r3 hc_r3 hp10 => ?_)
              replace hp10 : (0 ≤ r3 ∧ r3 ≤ 3) := hp10
              refine T_qNm (fun n5 e_n5 => ?_)
              refine T_qIn ⟨by omega, by omega⟩ ?_
              refine T_qNm (fun n7 e_n7 => ?_)
              have b_n7 : -2147483648 ≤ n7 ∧ n7 ≤ 2147483647 := by rw [e_n7]; exact bC_76 hB_o _
              have b7 := bd9.2 n5.toNat (by omega)
              refine T_qIn ⟨by omega, by omega⟩ ?_
              refine T_qNm (fun o9 e_o9 => ?_)
              have hB_o9 : BoxC o9 := by rw [e_o9]; exact Box.s1 hB_o (show -2147483648 ≤ (n7 - 1) ∧ (n7 - 1) ≤ 2147483647 from ⟨by omega, by omega⟩)
              have fr_o9 : Fr [(75, 9999), (76, 9999)] i_o o9 := by rw [e_o9]; exact Fr.s1 fr_o rfl
              have bk2 : ∀ K, BDC i_o K → BDC o9 (K + (x4 + 1)) := fun K hK => by rw [e_o9, ← Int.add_assoc]; exact BDC_76 (w2 K hK) (by omega) (by omega)
              unfold b_X9_push_143
              refine T_some ?_
              show (BoxC o9 ∧ (Fr [(75, 9999), (76, 9999)] i_o o9) ∧ (0 ≤ n20 ∧ n20 ≤ 127) ∧ (0 ≤ (x4 + 1) ∧ (x4 + 1) ≤ 128) ∧ (∀ K, BDC i_o K → BDC o9 (K + (x4 + 1)))) ∧ (128 - (x4 + 1)).toNat < (128 - x4).toNat
              exact ⟨⟨hB_o9, fr_o9, (by omega), (by omega), (by first | assumption | exact (fun K hK => BDC.up hK (by omega)) | exact (fun K hK => BDC.up (w2 K hK) (by omega)))⟩, by omega⟩
            ·
              refine T_qB (t_X3_wayTo n24 n22 (by omega) (by omega)) (fun r10 hc_r10 hp11 => ?_)
              replace hp11 : (0 ≤ r10 ∧ r10 ≤ 3) := hp11
              refine T_qNm (fun n12 e_n12 => ?_)
              refine T_qIn ⟨by omega, by omega⟩ ?_
              refine T_qNm (fun n14 e_n14 => ?_)
              have b_n14 : -2147483648 ≤ n14 ∧ n14 ≤ 2147483647 := by rw [e_n14]; exact bC_76 hB_o _
              have b14 := bd9.2 n12.toNat (by omega)
              refine T_qIn ⟨by omega, by omega⟩ ?_
              refine T_qNm (fun o16 e_o16 => ?_)
              have hB_o16 : BoxC o16 := by rw [e_o16]; exact Box.s1 hB_o (show -2147483648 ≤ (n14 + 1) ∧ (n14 + 1) ≤ 2147483647 from ⟨by omega, by omega⟩)
              have fr_o16 : Fr [(75, 9999), (76, 9999)] i_o o16 := by rw [e_o16]; exact Fr.s1 fr_o rfl
              have bk2 : ∀ K, BDC i_o K → BDC o16 (K + (x4 + 1)) := fun K hK => by rw [e_o16, ← Int.add_assoc]; exact BDC_76 (w2 K hK) (by omega) (by omega)
              unfold b_X9_push_143
              refine T_some ?_
              show (BoxC o16 ∧ (Fr [(75, 9999), (76, 9999)] i_o o16) ∧ (0 ≤ n20 ∧ n20 ≤ 127) ∧ (0 ≤ (x4 + 1) ∧ (x4 + 1) ≤ 128) ∧ (∀ K, BDC i_o K → BDC o16 (K + (x4 + 1)))) ∧ (128 - (x4 + 1)).toNat < (128 - x4).toNat
              exact ⟨⟨hB_o16, fr_o16, (by omega), (by omega), (by first | assumption | exact (fun K hK => BDC.up hK (by omega)) | exact (fun K hK => BDC.up (w2 K hK) (by omega)))⟩, by omega⟩
        ·
          unfold b_X9_push_61
          refine T_qEq ⟨by omega, by omega⟩ ⟨by omega, by omega⟩ (fun h12 => ?_) (fun h12 => ?_)
          ·
            refine T_qIn ⟨by omega, by omega⟩ ?_
            refine T_qNm (fun n18 e_n18 => ?_)
            have b_n18 : -2147483648 ≤ n18 ∧ n18 ≤ 2147483647 := by rw [e_n18]; exact bC_75 hB_o _
            have b18 := bd9.1 n22.toNat (by omega)
            refine T_qEq ⟨by decide, by decide⟩ ⟨by decide, by decide⟩ (fun h13 => ?_) (fun h13 => ?_)
            ·
              unfold b_X9_push_88
              refine T_qIn ⟨by omega, by omega⟩ ?_
              refine T_qNm (fun o2 e_o2 => ?_)
              have hB_o2 : BoxC o2 := by rw [e_o2]; exact Box.s1 hB_o (show -2147483648 ≤ (n18 + 1) ∧ (n18 + 1) ≤ 2147483647 from ⟨by omega, by omega⟩)
              have fr_o2 : Fr [(75, 9999), (76, 9999)] i_o o2 := by rw [e_o2]; exact Fr.s1 fr_o rfl
              have bk2 : ∀ K, BDC i_o K → BDC o2 (K + (x4 + 1)) := fun K hK => by rw [e_o2, ← Int.add_assoc]; exact BDC_75 (w2 K hK) (by omega) (by omega)
              unfold b_X9_push_143
              refine T_some ?_
              show (BoxC o2 ∧ (Fr [(75, 9999), (76, 9999)] i_o o2) ∧ (0 ≤ n20 ∧ n20 ≤ 127) ∧ (0 ≤ (x4 + 1) ∧ (x4 + 1) ≤ 128) ∧ (∀ K, BDC i_o K → BDC o2 (K + (x4 + 1)))) ∧ (128 - (x4 + 1)).toNat < (128 - x4).toNat
              exact ⟨⟨hB_o2, fr_o2, (by omega), (by omega), (by first | assumption | exact (fun K hK => BDC.up hK (by omega)) | exact (fun K hK => BDC.up (w2 K hK) (by omega)))⟩, by omega⟩
            ·
              unfold b_X9_push_88
              refine T_qIn ⟨by omega, by omega⟩ ?_
              refine T_qNm (fun o2 e_o2 => ?_)
              have hB_o2 : BoxC o2 := by rw [e_o2]; exact Box.s1 hB_o (show -2147483648 ≤ (n18 + (-1)) ∧ (n18 + (-1)) ≤ 2147483647 from ⟨by omega, by omega⟩)
              have fr_o2 : Fr [(75, 9999), (76, 9999)] i_o o2 := by rw [e_o2]; exact Fr.s1 fr_o rfl
              have bk2 : ∀ K, BDC i_o K → BDC o2 (K + (x4 + 1)) := fun K hK => by rw [e_o2, ← Int.add_assoc]; exact BDC_75 (w2 K hK) (by omega) (by omega)
              unfold b_X9_push_143
              refine T_some ?_
              show (BoxC o2 ∧ (Fr [(75, 9999), (76, 9999)] i_o o2) ∧ (0 ≤ n20 ∧ n20 ≤ 127) ∧ (0 ≤ (x4 + 1) ∧ (x4 + 1) ≤ 128) ∧ (∀ K, BDC i_o K → BDC o2 (K + (x4 + 1)))) ∧ (128 - (x4 + 1)).toNat < (128 - x4).toNat
              exact ⟨⟨hB_o2, fr_o2, (by omega), (by omega), (by first | assumption | exact (fun K hK => BDC.up hK (by omega)) | exact (fun K hK => BDC.up (w2 K hK) (by omega)))⟩, by omega⟩
          ·
            refine T_qEq ⟨by decide, by decide⟩ ⟨by decide, by decide⟩ (fun h14 => ?_) (fun h14 => ?_)
            ·
              refine T_qB (t_X3_wayTo n22 n24 (by omega) (by omega)) (fun r3 hc_r3 hp15 => ?_)
              replace hp15 : (0 ≤ r3 ∧ r3 ≤ 3) := hp15
              refine T_qNm (fun n5 e_n5 => ?_)
              refine T_qIn ⟨by omega, by omega⟩ ?_
              refine T_qNm (fun n7 e_n7 => ?_)
              have b_n7 : -2147483648 ≤ n7 ∧ n7 ≤ 2147483647 := by rw [e_n7]; exact bC_76 hB_o _
              have b7 := bd9.2 n5.toNat (by omega)
              refine T_qIn ⟨by omega, by omega⟩ ?_
              refine T_qNm (fun o9 e_o9 => ?_)
              have hB_o9 : BoxC o9 := by rw [e_o9]; exact Box.s1 hB_o (show -2147483648 ≤ (n7 - 1) ∧ (n7 - 1) ≤ 2147483647 from ⟨by omega, by omega⟩)
              have fr_o9 : Fr [(75, 9999), (76, 9999)] i_o o9 := by rw [e_o9]; exact Fr.s1 fr_o rfl
              have bk2 : ∀ K, BDC i_o K → BDC o9 (K + (x4 + 1)) := fun K hK => by rw [e_o9, ← Int.add_assoc]; exact BDC_76 (w2 K hK) (by omega) (by omega)
              unfold b_X9_push_143
              refine T_some ?_
              show (BoxC o9 ∧ (Fr [(75, 9999), (76, 9999)] i_o o9) ∧ (0 ≤ n20 ∧ n20 ≤ 127) ∧ (0 ≤ (x4 + 1) ∧ (x4 + 1) ≤ 128) ∧ (∀ K, BDC i_o K → BDC o9 (K + (x4 + 1)))) ∧ (128 - (x4 + 1)).toNat < (128 - x4).toNat
              exact ⟨⟨hB_o9, fr_o9, (by omega), (by omega), (by first | assumption | exact (fun K hK => BDC.up hK (by omega)) | exact (fun K hK => BDC.up (w2 K hK) (by omega)))⟩, by omega⟩
            ·
              refine T_qB (t_X3_wayTo n24 n22 (by omega) (by omega)) (fun r10 hc_r10 hp16 => ?_)
              replace hp16 : (0 ≤ r10 ∧ r10 ≤ 3) := hp16
              refine T_qNm (fun n12 e_n12 => ?_)
              refine T_qIn ⟨by omega, by omega⟩ ?_
              refine T_qNm (fun n14 e_n14 => ?_)
              have b_n14 : -2147483648 ≤ n14 ∧ n14 ≤ 2147483647 := by rw [e_n14]; exact bC_76 hB_o _
              have b14 := bd9.2 n12.toNat (by omega)
              refine T_qIn ⟨by omega, by omega⟩ ?_
              refine T_qNm (fun o16 e_o16 => ?_)
              have hB_o16 : BoxC o16 := by rw [e_o16]; exact Box.s1 hB_o (show -2147483648 ≤ (n14 + 1) ∧ (n14 + 1) ≤ 2147483647 from ⟨by omega, by omega⟩)
              have fr_o16 : Fr [(75, 9999), (76, 9999)] i_o o16 := by rw [e_o16]; exact Fr.s1 fr_o rfl
              have bk2 : ∀ K, BDC i_o K → BDC o16 (K + (x4 + 1)) := fun K hK => by rw [e_o16, ← Int.add_assoc]; exact BDC_76 (w2 K hK) (by omega) (by omega)
              unfold b_X9_push_143
              refine T_some ?_
              show (BoxC o16 ∧ (Fr [(75, 9999), (76, 9999)] i_o o16) ∧ (0 ≤ n20 ∧ n20 ≤ 127) ∧ (0 ≤ (x4 + 1) ∧ (x4 + 1) ≤ 128) ∧ (∀ K, BDC i_o K → BDC o16 (K + (x4 + 1)))) ∧ (128 - (x4 + 1)).toNat < (128 - x4).toNat
              exact ⟨⟨hB_o16, fr_o16, (by omega), (by omega), (by first | assumption | exact (fun K hK => BDC.up hK (by omega)) | exact (fun K hK => BDC.up (w2 K hK) (by omega)))⟩, by omega⟩
  ·
    refine T_some ?_
    show BoxC o ∧ (Fr [(75, 9999), (76, 9999)] i_o o) ∧ (∀ K, BDC i_o K → BDC o (K + 128))
    exact ⟨hB_o, fr_o, (by first | assumption | exact (fun K hK => BDC.up hK (by omega)) | exact (fun K hK => BDC.up (w2 K hK) (by omega)))⟩
set_option maxRecDepth 20000 in
set_option maxHeartbeats 4000000 in
theorem t_X9_push (o : OO) (x1 : Int) (x2 : Int) (hB_o : BoxC o) (k0 : 0 ≤ x1 ∧ x1 ≤ 63) (k1 : 0 ≤ x2 ∧ x2 ≤ 63) (k2 : BDC o 100000) : T (s_X9_push o x1 x2) (fun v => BoxC v ∧ (Fr [(75, 9999), (76, 9999)] o v) ∧ (∀ K, BDC o K → BDC v (K + 128))) := by
  have fr_o : Fr [(75, 9999), (76, 9999)] o o := Fr.rf
  unfold s_X9_push
  unfold e_X9_push_5
  refine T_qB (tl_X9_push_5 x1 o x2 0 hB_o (by omega) (by assumption) (by omega) (by omega) (by first | assumption | exact (fun K hK => BDC.up hK (by omega)) | exact (fun K hK => BDC.up (w2 K hK) (by omega)))) (fun r17 hc_r17 hp18 => ?_)
  rcases r17 with r17 | r17
  ·
    obtain ⟨o_19, q_o_19⟩ : ∃ q, q = r17 := ⟨_, rfl⟩
    subst q_o_19
    replace hp18 : BoxC o_19 ∧ (Fr [(75, 9999), (76, 9999)] o o_19) ∧ (∀ K, BDC o K → BDC o_19 (K + 128)) := hp18
    have hps_hp18 := hp18
    obtain ⟨hp18_0, hp18_1, hp18_2⟩ := hps_hp18
    obtain ⟨hB_o_19, fc_o_19, hp18⟩ := hp18
    replace hp18 := hid hp18
    have fr_o_19 : Fr [(75, 9999), (76, 9999)] o o_19 := Fr.tr fr_o fc_o_19 rfl
    show T (b_X9_push_36 o_19) _
    unfold b_X9_push_36
    refine T_some ?_
    show BoxC o_19 ∧ (Fr [(75, 9999), (76, 9999)] o o_19) ∧ (∀ K, BDC o K → BDC o_19 (K + 128))
    exact ⟨hB_o_19, fr_o_19, (by first | assumption | exact (fun K hK => BDC.up hK (by omega)) | exact (fun K hK => BDC.up (w2 K hK) (by omega)))⟩
  ·
    obtain ⟨o_20, q_o_20⟩ : ∃ q, q = r17 := ⟨_, rfl⟩
    subst q_o_20
    replace hp18 : BoxC o_20 ∧ (Fr [(75, 9999), (76, 9999)] o o_20) ∧ (∀ K, BDC o K → BDC o_20 (K + 128)) := hp18
    have hps_hp18 := hp18
    obtain ⟨hp18_0, hp18_1, hp18_2⟩ := hps_hp18
    obtain ⟨hB_o_20, fc_o_20, hp18⟩ := hp18
    replace hp18 := hid hp18
    have fr_o_20 : Fr [(75, 9999), (76, 9999)] o o_20 := Fr.tr fr_o fc_o_20 rfl
    show T (b_X9_push_152 o_20) _
    unfold b_X9_push_152
    refine T_some ?_
    show BoxC o_20 ∧ (Fr [(75, 9999), (76, 9999)] o o_20) ∧ (∀ K, BDC o K → BDC o_20 (K + 128))
    exact ⟨hB_o_20, fr_o_20, (by first | assumption | exact (fun K hK => BDC.up hK (by omega)) | exact (fun K hK => BDC.up (w2 K hK) (by omega)))⟩
set_option maxRecDepth 20000 in
set_option maxHeartbeats 4000000 in
theorem tl_X9_nearestCut_19 (x1 : Int) (x2 : Int) (z3 : Int64) (i_o : OO) (i_x5 : Int) (hB_i_o : BoxC i_o) (k0 : 0 ≤ x1 ∧ x1 ≤ 63) (k1 : 0 ≤ x2 ∧ x2 ≤ 63) (k2 : OPN i_o 4) (v0 : 0 ≤ i_x5 ∧ i_x5 ≤ 64) (v1 : BDC i_o (128 * i_x5)) : T (loopW (fun s => l_X9_nearestCut_19 x1 x2 z3 s.1 s.2) (i_o, i_x5)) (Sum.elim (fun r => BoxC r ∧ (Fr [(71, 5), (73, 9999), (74, 9999), (75, 9999), (76, 9999)] i_o r)) (fun r => BoxC r ∧ (Fr [(71, 5), (73, 9999), (74, 9999), (75, 9999), (76, 9999)] i_o r))) := by
  have fr_i_o : Fr [(71, 5), (73, 9999), (74, 9999), (75, 9999), (76, 9999)] i_o i_o := Fr.rf
  refine T_loop (fun s => BoxC s.1 ∧ (Fr [(71, 5), (73, 9999), (74, 9999), (75, 9999), (76, 9999)] i_o s.1) ∧ (0 ≤ s.2 ∧ s.2 ≤ 64) ∧ (BDC s.1 (128 * s.2))) (fun s => (64 - s.2).toNat) (by exact ⟨hB_i_o, fr_i_o, v0, v1⟩) (fun s hs => ?_)
  obtain ⟨o, x5⟩ := s
  replace hs : BoxC o ∧ (Fr [(71, 5), (73, 9999), (74, 9999), (75, 9999), (76, 9999)] i_o o) ∧ (0 ≤ x5 ∧ x5 ≤ 64) ∧ (BDC o (128 * x5)) := hs
  obtain ⟨hB_o, fr_o, w0, w1⟩ := hs
  have op9 : OPN o 4 := OPN.cg (show OPN i_o 4 by assumption) (fun j => fr_o.2 72 j rfl)
  show T (l_X9_nearestCut_19 x1 x2 z3 o x5) _
  unfold l_X9_nearestCut_19
  refine T_qLt ⟨by omega, by omega⟩ ⟨by decide, by decide⟩ (fun h1 => ?_) (fun h1 => ?_)
  ·
    refine T_qB2 (t_X9_search o x1 x2 z3 hB_o (by omega) (by omega) (by assumption)) (fun r11 o13 hc_r11 hp2 => ?_)
    replace hp2 : BoxC o13 ∧ (Fr [(71, 5), (73, 9999), (74, 9999)] o o13) ∧ (0 ≤ r11 ∧ r11 ≤ 1) := hp2
    obtain ⟨hB_o13, fc_o13, hp2⟩ := hp2
    have fr_o13 : Fr [(71, 5), (73, 9999), (74, 9999), (75, 9999), (76, 9999)] i_o o13 := Fr.tr fr_o fc_o13 rfl
    have bd13 : BDC o13 (128 * x5) := BDC.cg (fun j => fc_o13.1 75 j rfl) (fun j => fc_o13.1 76 j rfl) w1
    refine T_qEq ⟨by omega, by omega⟩ ⟨by decide, by decide⟩ (fun h3 => ?_) (fun h3 => ?_)
    ·
      refine T_some ?_
      show BoxC o13 ∧ (Fr [(71, 5), (73, 9999), (74, 9999), (75, 9999), (76, 9999)] i_o o13)
      exact ⟨hB_o13, fr_o13⟩
    ·
      refine T_qB (t_X9_push o13 x1 x2 hB_o13 (by omega) (by omega) (by first | assumption | exact bd13.up (by omega))) (fun o16 hc_o16 hp4 => ?_)
      replace hp4 : BoxC o16 ∧ (Fr [(75, 9999), (76, 9999)] o13 o16) ∧ (∀ K, BDC o13 K → BDC o16 (K + 128)) := hp4
      obtain ⟨hB_o16, fc_o16, hp4⟩ := hp4
      have fr_o16 : Fr [(71, 5), (73, 9999), (74, 9999), (75, 9999), (76, 9999)] i_o o16 := Fr.tr fr_o13 fc_o16 rfl
      have bd16 : BDC o16 (128 * (x5 + 1)) := (hp4 _ bd13).up (by omega)
      refine T_some ?_
      show (BoxC o16 ∧ (Fr [(71, 5), (73, 9999), (74, 9999), (75, 9999), (76, 9999)] i_o o16) ∧ (0 ≤ (x5 + 1) ∧ (x5 + 1) ≤ 64) ∧ (BDC o16 (128 * (x5 + 1)))) ∧ (64 - (x5 + 1)).toNat < (64 - x5).toNat
      exact ⟨⟨hB_o16, fr_o16, (by omega), (by first | assumption | exact bd13.up (by omega))⟩, by omega⟩
  ·
    refine T_some ?_
    show BoxC o ∧ (Fr [(71, 5), (73, 9999), (74, 9999), (75, 9999), (76, 9999)] i_o o)
    exact ⟨hB_o, fr_o⟩
set_option maxRecDepth 20000 in
set_option maxHeartbeats 4000000 in
theorem tl_X9_nearestCut_57 (o : OO) (z3 : Int64) (i_z5 : Int64) (i_x7 : Int) (hB_o : BoxC o) (v0 : 0 ≤ i_x7 ∧ i_x7 ≤ 64) : T (loopW (fun s => l_X9_nearestCut_57 o z3 s.1 s.2) (i_z5, i_x7)) (fun r => True) := by
  refine T_loop (fun s => (0 ≤ s.2 ∧ s.2 ≤ 64)) (fun s => (64 - s.2).toNat) (by exact v0) (fun s hs => ?_)
  obtain ⟨z5, x7⟩ := s
  replace hs : (0 ≤ x7 ∧ x7 ≤ 64) := hs
  have w0 := hs
  show T (l_X9_nearestCut_57 o z3 z5 x7) _
  unfold l_X9_nearestCut_57
  refine T_qLt ⟨by omega, by omega⟩ ⟨by decide, by decide⟩ (fun h5 => ?_) (fun h5 => ?_)
  ·
    refine T_qIn ⟨by omega, by omega⟩ ?_
    refine T_qNm (fun n2 e_n2 => ?_)
    have b_n2 : n2 = -9 ∨ (0 ≤ n2 ∧ n2 ≤ 127) := by rw [e_n2]; exact bC_73 hB_o _
    refine T_qEq ⟨by omega, by omega⟩ ⟨by decide, by decide⟩ (fun h6 => ?_) (fun h6 => ?_)
    ·
      unfold b_X9_nearestCut_110
      refine T_some ?_
      show ((0 ≤ (x7 + 1) ∧ (x7 + 1) ≤ 64)) ∧ (64 - (x7 + 1)).toNat < (64 - x7).toNat
      exact ⟨(by omega), by omega⟩
    ·
      refine T_qIn ⟨by omega, by omega⟩ ?_
      refine T_qNm (fun n4 e_n4 => ?_)
      have b_n4 : n4 = -9 ∨ (0 ≤ n4 ∧ n4 ≤ 127) := by rw [e_n4]; exact bC_73 hB_o _
      refine T_qEq ⟨by omega, by omega⟩ ⟨by decide, by decide⟩ (fun h7 => ?_) (fun h7 => ?_)
      ·
        refine T_qB (t_X3_has z3 x7) (fun r5 hc_r5 hp8 => ?_)
        replace hp8 : (0 ≤ r5 ∧ r5 ≤ 1) ∧ (HBT z3 x7 r5) := hp8
        have hps_hp8 := hp8
        obtain ⟨hp8_0, hp8_1⟩ := hps_hp8
        replace hp8 := hid hp8
        refine T_qEq ⟨by omega, by omega⟩ ⟨by decide, by decide⟩ (fun h9 => ?_) (fun h9 => ?_)
        ·
          unfold b_X9_nearestCut_110
          refine T_some ?_
          show ((0 ≤ (x7 + 1) ∧ (x7 + 1) ≤ 64)) ∧ (64 - (x7 + 1)).toNat < (64 - x7).toNat
          exact ⟨(by omega), by omega⟩
        ·
          refine T_qB (t_X3_bit x7) (fun p7 hc_p7 hp10 => ?_)
          replace hp10 : (p7 = jshl 1 (Int32.ofInt x7)) := hp10
          refine T_qNm (fun m9 e_m9 => ?_)
          unfold b_X9_nearestCut_110
          refine T_some ?_
          show ((0 ≤ (x7 + 1) ∧ (x7 + 1) ≤ 64)) ∧ (64 - (x7 + 1)).toNat < (64 - x7).toNat
          exact ⟨(by omega), by omega⟩
      ·
        unfold b_X9_nearestCut_110
        refine T_some ?_
        show ((0 ≤ (x7 + 1) ∧ (x7 + 1) ≤ 64)) ∧ (64 - (x7 + 1)).toNat < (64 - x7).toNat
        exact ⟨(by omega), by omega⟩
  ·
    refine T_some ?_
    show True
    exact trivial
set_option maxRecDepth 20000 in
set_option maxHeartbeats 4000000 in
theorem t_X9_nearestCut (o : OO) (x1 : Int) (x2 : Int) (z3 : Int64) (hB_o : BoxC o) (k0 : 0 ≤ x1 ∧ x1 ≤ 63) (k1 : 0 ≤ x2 ∧ x2 ≤ 63) (k2 : OPN o 4) : T (s_X9_nearestCut o x1 x2 z3) (fun v => BoxC v.2 ∧ (Fr [(71, 5), (73, 9999), (74, 9999), (75, 9999), (76, 9999)] o v.2)) := by
  have fr_o : Fr [(71, 5), (73, 9999), (74, 9999), (75, 9999), (76, 9999)] o o := Fr.rf
  unfold s_X9_nearestCut
  refine T_qB (t_J7_fill_53178__75 o 0 hB_o (by omega)) (fun o19 hc_o19 hp11 => ?_)
  replace hp11 : BoxC o19 ∧ (Fr [(75, 9999)] o o19) ∧ (FP o19 75 64 0) := hp11
  obtain ⟨hB_o19, fc_o19, hp11⟩ := hp11
  have fr_o19 : Fr [(71, 5), (73, 9999), (74, 9999), (75, 9999), (76, 9999)] o o19 := Fr.tr fr_o fc_o19 rfl
  have fp19 := hp11
  refine T_qB (t_J7_fill_53178__76 o19 0 hB_o19 (by omega)) (fun o22 hc_o22 hp12 => ?_)
  replace hp12 : BoxC o22 ∧ (Fr [(76, 9999)] o19 o22) ∧ (FP o22 76 256 0) := hp12
  obtain ⟨hB_o22, fc_o22, hp12⟩ := hp12
  have fr_o22 : Fr [(71, 5), (73, 9999), (74, 9999), (75, 9999), (76, 9999)] o o22 := Fr.tr fr_o19 fc_o22 rfl
  have bd22 : BDC o22 (128 * 0) := BDC_0 (fun j hj => by rw [fc_o22.1 75 j rfl]; exact fp19 j hj) hp12
  have op22 : OPN o22 4 := OPN.cg (show OPN o 4 by assumption) (fun j => (fc_o22.2 72 j rfl).trans (fc_o19.2 72 j rfl))
  unfold e_X9_nearestCut_19
  refine T_qB (tl_X9_nearestCut_19 x1 x2 z3 o22 0 hB_o22 (by omega) (by omega) (by assumption) (by omega) (by first | assumption | exact bd13.up (by omega))) (fun r13 hc_r13 hp14 => ?_)
  rcases r13 with r13 | r13
  ·
    obtain ⟨o_15, q_o_15⟩ : ∃ q, q = r13 := ⟨_, rfl⟩
    subst q_o_15
    replace hp14 : BoxC o_15 ∧ (Fr [(71, 5), (73, 9999), (74, 9999), (75, 9999), (76, 9999)] o22 o_15) := hp14
    have hps_hp14 := hp14
    obtain ⟨hp14_0, hp14_1⟩ := hps_hp14
    obtain ⟨hB_o_15, fc_o_15⟩ := hp14
    have fr_o_15 : Fr [(71, 5), (73, 9999), (74, 9999), (75, 9999), (76, 9999)] o o_15 := Fr.tr fr_o22 fc_o_15 rfl
    show T (b_X9_nearestCut_36 o_15 z3) _
    unfold b_X9_nearestCut_36
    unfold b_X9_nearestCut_51
    refine T_qNm (fun m10 e_m10 => ?_)
    unfold e_X9_nearestCut_57
    refine T_qB (tl_X9_nearestCut_57 o_15 z3 m10 0 hB_o_15 (by omega)) (fun r16 hc_r16 hp17 => ?_)
    obtain ⟨z5_18, q_z5_18⟩ : ∃ q, q = r16 := ⟨_, rfl⟩
    subst q_z5_18
    show T (b_X9_nearestCut_116 o_15 z5_18) _
    unfold b_X9_nearestCut_116
    refine T_some ?_
    show BoxC o_15 ∧ (Fr [(71, 5), (73, 9999), (74, 9999), (75, 9999), (76, 9999)] o o_15)
    exact ⟨hB_o_15, fr_o_15⟩
  ·
    obtain ⟨o_19, q_o_19⟩ : ∃ q, q = r13 := ⟨_, rfl⟩
    subst q_o_19
    replace hp14 : BoxC o_19 ∧ (Fr [(71, 5), (73, 9999), (74, 9999), (75, 9999), (76, 9999)] o22 o_19) := hp14
    have hps_hp14 := hp14
    obtain ⟨hp14_0, hp14_1⟩ := hps_hp14
    obtain ⟨hB_o_19, fc_o_19⟩ := hp14
    have fr_o_19 : Fr [(71, 5), (73, 9999), (74, 9999), (75, 9999), (76, 9999)] o o_19 := Fr.tr fr_o22 fc_o_19 rfl
    show T (b_X9_nearestCut_51 o_19 z3) _
    unfold b_X9_nearestCut_51
    refine T_qNm (fun m10 e_m10 => ?_)
    unfold e_X9_nearestCut_57
    refine T_qB (tl_X9_nearestCut_57 o_19 z3 m10 0 hB_o_19 (by omega)) (fun r20 hc_r20 hp21 => ?_)
    obtain ⟨z5_22, q_z5_22⟩ : ∃ q, q = r20 := ⟨_, rfl⟩
    subst q_z5_22
    show T (b_X9_nearestCut_116 o_19 z5_22) _
    unfold b_X9_nearestCut_116
    refine T_some ?_
    show BoxC o_19 ∧ (Fr [(71, 5), (73, 9999), (74, 9999), (75, 9999), (76, 9999)] o o_19)
    exact ⟨hB_o_19, fr_o_19⟩
set_option maxRecDepth 20000 in
set_option maxHeartbeats 4000000 in
theorem t_X11_stop (o : OO) (x1 : Int) (x2 : Int) (hB_o : BoxC o) (k0 : inR x1) (k1 : inR x2) : T (s_X11_stop o x1 x2) (fun v => BoxC v.2 ∧ (Fr [(0, 16), (0, 17), (71, 5), (72, 9999), (73, 9999), (74, 9999), (75, 9999), (76, 9999), (77, 9999)] o v.2)) := by
  have fr_o : Fr [(0, 16), (0, 17), (71, 5), (72, 9999), (73, 9999), (74, 9999), (75, 9999), (76, 9999), (77, 9999)] o o := Fr.rf
  have g10_12_o := bC_10_12 hB_o
  unfold s_X11_stop
  refine T_qB (t_X3_isCell x1 (by omega)) (fun r1 hc_r1 hp1 => ?_)
  replace hp1 : ((r1 = 1 ∧ (0 ≤ x1 ∧ x1 < 64)) ∨ (r1 = 0 ∧ ¬ (0 ≤ x1 ∧ x1 < 64))) := hp1
  refine T_qEq ⟨by omega, by omega⟩ ⟨by decide, by decide⟩ (fun h2 => ?_) (fun h2 => ?_)
  ·
    unfold b_X11_stop_19
    refine T_some ?_
    show BoxC o ∧ (Fr [(0, 16), (0, 17), (71, 5), (72, 9999), (73, 9999), (74, 9999), (75, 9999), (76, 9999), (77, 9999)] o o)
    exact ⟨hB_o, fr_o⟩
  ·
    refine T_qB (t_X3_isCell x2 (by omega)) (fun r3 hc_r3 hp3 => ?_)
    replace hp3 : ((r3 = 1 ∧ (0 ≤ x2 ∧ x2 < 64)) ∨ (r3 = 0 ∧ ¬ (0 ≤ x2 ∧ x2 < 64))) := hp3
    refine T_qEq ⟨by omega, by omega⟩ ⟨by decide, by decide⟩ (fun h4 => ?_) (fun h4 => ?_)
    ·
      unfold b_X11_stop_19
      refine T_some ?_
      show BoxC o ∧ (Fr [(0, 16), (0, 17), (71, 5), (72, 9999), (73, 9999), (74, 9999), (75, 9999), (76, 9999), (77, 9999)] o o)
      exact ⟨hB_o, fr_o⟩
    ·
      refine T_qEq ⟨by omega, by omega⟩ ⟨by omega, by omega⟩ (fun h5 => ?_) (fun h5 => ?_)
      ·
        unfold b_X11_stop_19
        refine T_some ?_
        show BoxC o ∧ (Fr [(0, 16), (0, 17), (71, 5), (72, 9999), (73, 9999), (74, 9999), (75, 9999), (76, 9999), (77, 9999)] o o)
        exact ⟨hB_o, fr_o⟩
      ·
        refine T_qB (t_X3_isWater o x1 hB_o (by omega)) (fun r5 hc_r5 hp6 => ?_)
        replace hp6 : ((r5 = 1 ∧ (o.1 8 x1.toNat = 4)) ∨ (r5 = 0 ∧ ¬ (o.1 8 x1.toNat = 4))) := hp6
        refine T_qEq ⟨by omega, by omega⟩ ⟨by decide, by decide⟩ (fun h7 => ?_) (fun h7 => ?_)
        ·
          refine T_qB (t_X3_isWater o x2 hB_o (by omega)) (fun r7 hc_r7 hp8 => ?_)
          replace hp8 : ((r7 = 1 ∧ (o.1 8 x2.toNat = 4)) ∨ (r7 = 0 ∧ ¬ (o.1 8 x2.toNat = 4))) := hp8
          refine T_qEq ⟨by omega, by omega⟩ ⟨by decide, by decide⟩ (fun h9 => ?_) (fun h9 => ?_)
          ·
            refine T_qB (t_X11_inForce o 0 hB_o (by omega)) (fun r9 hc_r9 hp10 => ?_)
            replace hp10 : (0 ≤ r9 ∧ r9 ≤ 9999) := hp10
            refine T_qB (t_X9_survey o r9 hB_o (by omega)) (fun o13 hc_o13 hp11 => ?_)
            replace hp11 : BoxC o13 ∧ (Fr [(72, 9999)] o o13) ∧ (OPN o13 4) := hp11
            obtain ⟨hB_o13, fc_o13, hp11⟩ := hp11
            have fr_o13 : Fr [(0, 16), (0, 17), (71, 5), (72, 9999), (73, 9999), (74, 9999), (75, 9999), (76, 9999), (77, 9999)] o o13 := Fr.tr fr_o fc_o13 rfl
            have g10_12_o13 : o13.1 10 12 = o.1 10 12 := fc_o13.1 10 12 rfl
            refine T_qB (t_X9_connects o13 x1 x2 (0 : Int64) hB_o13 (by omega) (by omega)) (fun r14 hc_r14 hp12 => ?_)
            replace hp12 : (0 ≤ r14 ∧ r14 ≤ 1) := hp12
            refine T_qEq ⟨by omega, by omega⟩ ⟨by decide, by decide⟩ (fun h13 => ?_) (fun h13 => ?_)
            ·
              refine T_qB2 (t_X11_found o13 1 hB_o13 (by omega)) (fun r31 o33 hc_r31 hp14 => ?_)
              replace hp14 : BoxC o33 ∧ (Fr [(0, 17), (77, 9999)] o13 o33) ∧ (r31 = -3) := hp14
              obtain ⟨hB_o33, fc_o33, hp14⟩ := hp14
              have fr_o33 : Fr [(0, 16), (0, 17), (71, 5), (72, 9999), (73, 9999), (74, 9999), (75, 9999), (76, 9999), (77, 9999)] o o33 := Fr.tr fr_o13 fc_o33 rfl
              have g10_12_o33 : o33.1 10 12 = o13.1 10 12 := fc_o33.1 10 12 rfl
              refine T_some ?_
              show BoxC o33 ∧ (Fr [(0, 16), (0, 17), (71, 5), (72, 9999), (73, 9999), (74, 9999), (75, 9999), (76, 9999), (77, 9999)] o o33)
              exact ⟨hB_o33, fr_o33⟩
            ·
              refine T_qB (t_X1_standingCells o13 hB_o13) (fun p16 hc_p16 hp15 => ?_)
              replace hp15 : (SCI o13 p16 (o13.1 10 12)) := hp15
              refine T_qB (t_X3_bit x1) (fun p18 hc_p18 hp16 => ?_)
              replace hp16 : (p18 = jshl 1 (Int32.ofInt x1)) := hp16
              refine T_qB (t_X3_bit x2) (fun p20 hc_p20 hp17 => ?_)
              replace hp17 : (p20 = jshl 1 (Int32.ofInt x2)) := hp17
              refine T_qNm (fun m22 e_m22 => ?_)
              refine T_qB (t_X9_connects o13 x1 x2 m22 hB_o13 (by omega) (by omega)) (fun r23 hc_r23 hp18 => ?_)
              replace hp18 : (0 ≤ r23 ∧ r23 ≤ 1) := hp18
              refine T_qEq ⟨by omega, by omega⟩ ⟨by decide, by decide⟩ (fun h19 => ?_) (fun h19 => ?_)
              ·
                refine T_qB2 (t_X9_nearestCut o13 x1 x2 m22 hB_o13 (by omega) (by omega) (by assumption)) (fun p25 o27 hc_p25 hp20 => ?_)
                replace hp20 : BoxC o27 ∧ (Fr [(71, 5), (73, 9999), (74, 9999), (75, 9999), (76, 9999)] o13 o27) := hp20
                obtain ⟨hB_o27, fc_o27⟩ := hp20
                have fr_o27 : Fr [(0, 16), (0, 17), (71, 5), (72, 9999), (73, 9999), (74, 9999), (75, 9999), (76, 9999), (77, 9999)] o o27 := Fr.tr fr_o13 fc_o27 rfl
                have g10_12_o27 : o27.1 10 12 = o13.1 10 12 := fc_o27.1 10 12 rfl
                refine T_qNm (fun o28 e_o28 => ?_)
                have hB_o28 : BoxC o28 := by rw [e_o28]; exact Box.s2 hB_o27
                have fr_o28 : Fr [(0, 16), (0, 17), (71, 5), (72, 9999), (73, 9999), (74, 9999), (75, 9999), (76, 9999), (77, 9999)] o o28 := by rw [e_o28]; exact Fr.s2 fr_o27 rfl
                have g10_12_o28 : o28.1 10 12 = o27.1 10 12 := by rw [e_o28]; rfl
                refine T_qB (t_J13_bitCount_95d88 (o28.2 0 16)) (fun r29 hc_r29 hp21 => ?_)
                replace hp21 : (inR r29) ∧ (r29 = PC (o28.2 0 16)) := hp21
                have hps_hp21 := hp21
                obtain ⟨hp21_0, hp21_1⟩ := hps_hp21
                replace hp21 := hid hp21
                refine T_some ?_
                show BoxC o28 ∧ (Fr [(0, 16), (0, 17), (71, 5), (72, 9999), (73, 9999), (74, 9999), (75, 9999), (76, 9999), (77, 9999)] o o28)
                exact ⟨hB_o28, fr_o28⟩
              ·
                refine T_some ?_
                show BoxC o13 ∧ (Fr [(0, 16), (0, 17), (71, 5), (72, 9999), (73, 9999), (74, 9999), (75, 9999), (76, 9999), (77, 9999)] o o13)
                exact ⟨hB_o13, fr_o13⟩
          ·
            unfold b_X11_stop_43
            refine T_some ?_
            show BoxC o ∧ (Fr [(0, 16), (0, 17), (71, 5), (72, 9999), (73, 9999), (74, 9999), (75, 9999), (76, 9999), (77, 9999)] o o)
            exact ⟨hB_o, fr_o⟩
        ·
          unfold b_X11_stop_43
          refine T_some ?_
          show BoxC o ∧ (Fr [(0, 16), (0, 17), (71, 5), (72, 9999), (73, 9999), (74, 9999), (75, 9999), (76, 9999), (77, 9999)] o o)
          exact ⟨hB_o, fr_o⟩
set_option maxRecDepth 20000 in
set_option maxHeartbeats 4000000 in
theorem tl_X1_worthBy_6 (o : OO) (x1 : Int) (x2 : Int) (i_x3 : Int) (i_x4 : Int) (hB_o : BoxC o) (k0 : inR x1) (k1 : inR x2) (v0 : 0 ≤ i_x4 ∧ i_x4 ≤ o.1 10 13) (v1 : -9 ≤ i_x3 ∧ i_x3 ≤ 100000) (v2 : i_x3 = -9 ∨ 0 ≤ i_x3) : T (loopW (fun s => l_X1_worthBy_6 o x1 x2 s.1 s.2) (i_x3, i_x4)) (fun r => (-9 ≤ r ∧ r ≤ 100000) ∧ (r = -9 ∨ 0 ≤ r)) := by
  refine T_loop (fun s => (0 ≤ s.2 ∧ s.2 ≤ o.1 10 13) ∧ (-9 ≤ s.1 ∧ s.1 ≤ 100000) ∧ (s.1 = -9 ∨ 0 ≤ s.1)) (fun s => (o.1 10 13 - s.2).toNat) (by exact ⟨v0, v1, v2⟩) (fun s hs => ?_)
  obtain ⟨x3, x4⟩ := s
  replace hs : (0 ≤ x4 ∧ x4 ≤ o.1 10 13) ∧ (-9 ≤ x3 ∧ x3 ≤ 100000) ∧ (x3 = -9 ∨ 0 ≤ x3) := hs
  obtain ⟨w0, w1, w2⟩ := hs
  have g10_13_o := bC_10_13 hB_o
  show T (l_X1_worthBy_6 o x1 x2 x3 x4) _
  unfold l_X1_worthBy_6
  refine T_qLt ⟨by omega, by omega⟩ ⟨by omega, by omega⟩ (fun h1 => ?_) (fun h1 => ?_)
  ·
    refine T_qIn ⟨by omega, by omega⟩ ?_
    refine T_qNm (fun n2 e_n2 => ?_)
    have b_n2 : 0 ≤ n2 ∧ n2 ≤ 999 := by rw [e_n2]; exact bC_20 hB_o _
    refine T_qLt ⟨by omega, by omega⟩ ⟨by omega, by omega⟩ (fun h2 => ?_) (fun h2 => ?_)
    ·
      refine T_some ?_
      show (-9 ≤ x3 ∧ x3 ≤ 100000) ∧ (x3 = -9 ∨ 0 ≤ x3)
      exact ⟨(by omega), (by omega)⟩
    ·
      refine T_qIn ⟨by omega, by omega⟩ ?_
      refine T_qNm (fun n4 e_n4 => ?_)
      have b_n4 : 0 ≤ n4 ∧ n4 ≤ 31 := by rw [e_n4]; exact bC_19 hB_o _
      refine T_qEq ⟨by omega, by omega⟩ ⟨by omega, by omega⟩ (fun h3 => ?_) (fun h3 => ?_)
      ·
        refine T_qIn ⟨by omega, by omega⟩ ?_
        refine T_qNm (fun n6 e_n6 => ?_)
        have b_n6 : 0 ≤ n6 ∧ n6 ≤ 100000 := by rw [e_n6]; exact bC_21 hB_o _
        unfold b_X1_worthBy_45
        refine T_some ?_
        show ((0 ≤ (x4 + 1) ∧ (x4 + 1) ≤ o.1 10 13) ∧ (-9 ≤ n6 ∧ n6 ≤ 100000) ∧ (n6 = -9 ∨ 0 ≤ n6)) ∧ (o.1 10 13 - (x4 + 1)).toNat < (o.1 10 13 - x4).toNat
        exact ⟨⟨(by omega), (by omega), (by omega)⟩, by omega⟩
      ·
        unfold b_X1_worthBy_45
        refine T_some ?_
        show ((0 ≤ (x4 + 1) ∧ (x4 + 1) ≤ o.1 10 13) ∧ (-9 ≤ x3 ∧ x3 ≤ 100000) ∧ (x3 = -9 ∨ 0 ≤ x3)) ∧ (o.1 10 13 - (x4 + 1)).toNat < (o.1 10 13 - x4).toNat
        exact ⟨⟨(by omega), (by omega), (by omega)⟩, by omega⟩
  ·
    refine T_some ?_
    show (-9 ≤ x3 ∧ x3 ≤ 100000) ∧ (x3 = -9 ∨ 0 ≤ x3)
    exact ⟨(by omega), (by omega)⟩
set_option maxRecDepth 20000 in
set_option maxHeartbeats 4000000 in
theorem t_X1_worthBy (o : OO) (x1 : Int) (x2 : Int) (hB_o : BoxC o) (k0 : inR x1) (k1 : inR x2) : T (s_X1_worthBy o x1 x2) (fun v => (-9 ≤ v ∧ v ≤ 100000) ∧ (v = -9 ∨ 0 ≤ v)) := by
  have g10_13_o := bC_10_13 hB_o
  unfold s_X1_worthBy
  unfold e_X1_worthBy_6
  refine T_qB (tl_X1_worthBy_6 o x1 x2 (-9) 0 hB_o (by omega) (by omega) (by omega) (by omega) (by omega)) (fun r4 hc_r4 hp5 => ?_)
  obtain ⟨x3_6, q_x3_6⟩ : ∃ q, q = r4 := ⟨_, rfl⟩
  subst q_x3_6
  replace hp5 : (-9 ≤ x3_6 ∧ x3_6 ≤ 100000) ∧ (x3_6 = -9 ∨ 0 ≤ x3_6) := hp5
  have hps_hp5 := hp5
  obtain ⟨hp5_0, hp5_1⟩ := hps_hp5
  replace hp5 := hid hp5
  show T (b_X1_worthBy_51 o x3_6) _
  unfold b_X1_worthBy_51
  refine T_some ?_
  show (-9 ≤ x3_6 ∧ x3_6 ≤ 100000) ∧ (x3_6 = -9 ∨ 0 ≤ x3_6)
  exact ⟨(by omega), (by omega)⟩
set_option maxRecDepth 20000 in
set_option maxHeartbeats 4000000 in
theorem tl_X1_firstWorth_2 (o : OO) (x1 : Int) (i_x2 : Int) (hB_o : BoxC o) (k0 : 0 ≤ x1 ∧ x1 ≤ 31) (v0 : 0 ≤ i_x2 ∧ i_x2 ≤ o.1 10 13) (v1 : NF o x1 i_x2) : T (loopW (fun s => l_X1_firstWorth_2 o x1 s) i_x2) (Sum.elim (fun r => (0 ≤ r ∧ r < o.1 10 13)) (fun _ => (NF o x1 (o.1 10 13)))) := by
  refine T_loop (fun s => (0 ≤ s ∧ s ≤ o.1 10 13) ∧ (NF o x1 s)) (fun s => (o.1 10 13 - s).toNat) (by exact ⟨v0, v1⟩) (fun s hs => ?_)
  obtain ⟨x2, q_x2⟩ : ∃ q, q = s := ⟨_, rfl⟩
  subst q_x2
  replace hs : (0 ≤ x2 ∧ x2 ≤ o.1 10 13) ∧ (NF o x1 x2) := hs
  obtain ⟨w0, w1⟩ := hs
  have g10_13_o := bC_10_13 hB_o
  have g10_12_o := bC_10_12 hB_o
  show T (l_X1_firstWorth_2 o x1 x2) _
  unfold l_X1_firstWorth_2
  refine T_qLt ⟨by omega, by omega⟩ ⟨by omega, by omega⟩ (fun h1 => ?_) (fun h1 => ?_)
  ·
    refine T_qIn ⟨by omega, by omega⟩ ?_
    refine T_qNm (fun n4 e_n4 => ?_)
    have b_n4 : 0 ≤ n4 ∧ n4 ≤ 31 := by rw [e_n4]; exact bC_19 hB_o _
    refine T_qEq ⟨by omega, by omega⟩ ⟨by omega, by omega⟩ (fun h2 => ?_) (fun h2 => ?_)
    ·
      refine T_some ?_
      show (0 ≤ x2 ∧ x2 < o.1 10 13)
      exact (by omega)
    ·
      refine T_some ?_
      show ((0 ≤ (x2 + 1) ∧ (x2 + 1) ≤ o.1 10 13) ∧ (NF o x1 (x2 + 1))) ∧ (o.1 10 13 - (x2 + 1)).toNat < (o.1 10 13 - x2).toNat
      exact ⟨⟨(by omega), (by first | exact NF_0 | exact NF_s w1 (by omega) (by omega) | (intro k hk; exact w1 k (by omega)))⟩, by omega⟩
  ·
    refine T_some ?_
    show (NF o x1 (o.1 10 13))
    exact (by first | exact NF_0 | exact NF_s w1 (by omega) (by omega) | (intro k hk; exact w1 k (by omega)))
set_option maxRecDepth 20000 in
set_option maxHeartbeats 4000000 in
theorem t_X1_firstWorth (o : OO) (x1 : Int) (hB_o : BoxC o) (k0 : 0 ≤ x1) (k1 : x1 < o.1 10 12) (k2 : HTC o) : T (s_X1_firstWorth o x1) (fun v => (0 ≤ v ∧ v ≤ 100000)) := by
  have g10_13_o := bC_10_13 hB_o
  have g10_12_o := bC_10_12 hB_o
  unfold s_X1_firstWorth
  unfold e_X1_firstWorth_2
  refine T_qB (tl_X1_firstWorth_2 o x1 0 hB_o (by omega) (by omega) (by first | exact NF_0 | exact NF_s w1 (by omega) (by omega) | (intro k hk; exact w1 k (by omega)))) (fun r3 hc_r3 hp4 => ?_)
  rcases r3 with r3 | r3
  ·
    obtain ⟨x2_5, q_x2_5⟩ : ∃ q, q = r3 := ⟨_, rfl⟩
    subst q_x2_5
    replace hp4 : (0 ≤ x2_5 ∧ x2_5 < o.1 10 13) := hp4
    show T (b_X1_firstWorth_20 o x2_5) _
    unfold b_X1_firstWorth_20
    refine T_qIn ⟨by omega, by omega⟩ ?_
    refine T_qNm (fun n2 e_n2 => ?_)
    have b_n2 : 0 ≤ n2 ∧ n2 ≤ 100000 := by rw [e_n2]; exact bC_21 hB_o _
    refine T_some ?_
    show (0 ≤ n2 ∧ n2 ≤ 100000)
    exact (by omega)
  ·
    replace hp4 : (NF o x1 (o.1 10 13)) := hp4
    show T (b_X1_firstWorth_33 o) _
    have hw9 : NF o x1 (o.1 10 13) := hp4
    unfold b_X1_firstWorth_33
    refine T_some ?_
    show (0 ≤ (-9) ∧ (-9) ≤ 100000)
    exact (by exfalso; obtain ⟨k, q1, q2⟩ := k2 x1 k0 k1; exact hw9 k q1 q2)
set_option maxRecDepth 20000 in
set_option maxHeartbeats 4000000 in
theorem tl_X5_turnOut_5 (x1 : Int) (i_o : OO) (i_z2 : Int64) (i_x4 : Int) (hB_i_o : BoxC i_o) (k0 : inR x1) (v0 : 0 ≤ i_x4 ∧ i_x4 ≤ i_o.1 23 4) : T (loopW (fun s => l_X5_turnOut_5 x1 s.1 s.2.1 s.2.2) (i_o, i_z2, i_x4)) (fun r => BoxC r.1 ∧ (Fr [(24, 9999)] i_o r.1)) := by
  have fr_i_o : Fr [(24, 9999)] i_o i_o := Fr.rf
  refine T_loop (fun s => BoxC s.1 ∧ (Fr [(24, 9999)] i_o s.1) ∧ (0 ≤ s.2.2 ∧ s.2.2 ≤ s.1.1 23 4)) (fun s => (s.1.1 23 4 - s.2.2).toNat) (by exact ⟨hB_i_o, fr_i_o, v0⟩) (fun s hs => ?_)
  obtain ⟨o, z2, x4⟩ := s
  replace hs : BoxC o ∧ (Fr [(24, 9999)] i_o o) ∧ (0 ≤ x4 ∧ x4 ≤ o.1 23 4) := hs
  obtain ⟨hB_o, fr_o, w0⟩ := hs
  have g23_4_i := bC_23_4 hB_i_o
  have g23_4_o : o.1 23 4 = i_o.1 23 4 := fr_o.1 23 4 rfl
  show T (l_X5_turnOut_5 x1 o z2 x4) _
  unfold l_X5_turnOut_5
  refine T_qLt ⟨by omega, by omega⟩ ⟨by omega, by omega⟩ (fun h1 => ?_) (fun h1 => ?_)
  ·
    refine T_qIn ⟨by omega, by omega⟩ ?_
    refine T_qNm (fun n2 e_n2 => ?_)
    have b_n2 : n2 = -9 ∨ (0 ≤ n2 ∧ n2 ≤ 31) := by rw [e_n2]; exact bC_24 hB_o _
    refine T_qEq ⟨by omega, by omega⟩ ⟨by omega, by omega⟩ (fun h2 => ?_) (fun h2 => ?_)
    ·
      refine T_qIn ⟨by omega, by omega⟩ ?_
      refine T_qNm (fun o4 e_o4 => ?_)
      have hB_o4 : BoxC o4 := by rw [e_o4]; exact Box.s1 hB_o (show (-9) = -9 ∨ (0 ≤ (-9) ∧ (-9) ≤ 31) from (by omega))
      have fr_o4 : Fr [(24, 9999)] i_o o4 := by rw [e_o4]; exact Fr.s1 fr_o rfl
      have g23_4_o4 : o4.1 23 4 = o.1 23 4 := by rw [e_o4]; rfl
      refine T_qNm (fun m5 e_m5 => ?_)
      unfold b_X5_turnOut_44
      refine T_some ?_
      show (BoxC o4 ∧ (Fr [(24, 9999)] i_o o4) ∧ (0 ≤ (x4 + 1) ∧ (x4 + 1) ≤ o4.1 23 4)) ∧ (o4.1 23 4 - (x4 + 1)).toNat < (o.1 23 4 - x4).toNat
      exact ⟨⟨hB_o4, fr_o4, (by omega)⟩, by omega⟩
    ·
      unfold b_X5_turnOut_44
      refine T_some ?_
      show (BoxC o ∧ (Fr [(24, 9999)] i_o o) ∧ (0 ≤ (x4 + 1) ∧ (x4 + 1) ≤ o.1 23 4)) ∧ (o.1 23 4 - (x4 + 1)).toNat < (o.1 23 4 - x4).toNat
      exact ⟨⟨hB_o, fr_o, (by omega)⟩, by omega⟩
  ·
    refine T_some ?_
    show BoxC o ∧ (Fr [(24, 9999)] i_o o)
    exact ⟨hB_o, fr_o⟩
set_option maxRecDepth 20000 in
set_option maxHeartbeats 4000000 in
theorem t_X5_turnOut (o : OO) (x1 : Int) (hB_o : BoxC o) (k0 : inR x1) : T (s_X5_turnOut o x1) (fun v => BoxC v.2 ∧ (Fr [(24, 9999)] o v.2)) := by
  have fr_o : Fr [(24, 9999)] o o := Fr.rf
  have g23_4_o := bC_23_4 hB_o
  unfold s_X5_turnOut
  refine T_qNm (fun m6 e_m6 => ?_)
  unfold e_X5_turnOut_5
  refine T_qB (tl_X5_turnOut_5 x1 o m6 0 hB_o (by omega) (by omega)) (fun r3 hc_r3 hp4 => ?_)
  obtain ⟨o_5, z2_6⟩ := r3
  replace hp4 : BoxC o_5 ∧ (Fr [(24, 9999)] o o_5) := hp4
  have hps_hp4 := hp4
  obtain ⟨hp4_0, hp4_1⟩ := hps_hp4
  obtain ⟨hB_o_5, fc_o_5⟩ := hp4
  have fr_o_5 : Fr [(24, 9999)] o o_5 := Fr.tr fr_o fc_o_5 rfl
  have g23_4_o_5 : o_5.1 23 4 = o.1 23 4 := fc_o_5.1 23 4 rfl
  show T (b_X5_turnOut_50 o_5 z2_6) _
  unfold b_X5_turnOut_50
  refine T_some ?_
  show BoxC o_5 ∧ (Fr [(24, 9999)] o o_5)
  exact ⟨hB_o_5, fr_o_5⟩
set_option maxRecDepth 20000 in
set_option maxHeartbeats 4000000 in
theorem t_X4_setTaking (o : OO) (x1 : Int) (x2 : Int) (z3 : Int64) (hB_o : BoxC o) (k0 : 0 ≤ x1 ∧ x1 ≤ 23) (k1 : 0 ≤ x2 ∧ x2 ≤ 10000000) : T (s_X4_setTaking o x1 x2 z3) (fun v => BoxC v ∧ (Fr [(41, 9999), (45, 9999)] o v)) := by
  have fr_o : Fr [(41, 9999), (45, 9999)] o o := Fr.rf
  unfold s_X4_setTaking
  refine T_qIn ⟨by omega, by omega⟩ ?_
  refine T_qNm (fun o2 e_o2 => ?_)
  have hB_o2 : BoxC o2 := by rw [e_o2]; exact Box.s1 hB_o (show 0 ≤ x2 ∧ x2 ≤ 10000000 from ⟨by omega, by omega⟩)
  have fr_o2 : Fr [(41, 9999), (45, 9999)] o o2 := by rw [e_o2]; exact Fr.s1 fr_o rfl
  refine T_qIn ⟨by omega, by omega⟩ ?_
  refine T_qNm (fun o4 e_o4 => ?_)
  have hB_o4 : BoxC o4 := by rw [e_o4]; exact Box.s2 hB_o2
  have fr_o4 : Fr [(41, 9999), (45, 9999)] o o4 := by rw [e_o4]; exact Fr.s2 fr_o2 rfl
  refine T_some ?_
  show BoxC o4 ∧ (Fr [(41, 9999), (45, 9999)] o o4)
  exact ⟨hB_o4, fr_o4⟩
