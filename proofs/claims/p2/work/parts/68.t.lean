set_option maxRecDepth 20000 in
set_option maxHeartbeats 4000000 in
theorem t_X12_shown (o : OO) (x1 : Int) (hB_o : BoxM o) (k0 : inR x1) : T (s_X12_shown o x1) (fun v => BoxM v.2 ∧ (Fr [(0, 0), (1, 9999)] o v.2)) := by
  have fr_o : Fr [(0, 0), (1, 9999)] o o := Fr.rf
  have g0_32_o := bM_0_32 hB_o
  unfold s_X12_shown
  refine T_qB2 (t_X12_askedLine o x1 hB_o (by omega)) (fun r1 o3 hc_r1 hp1 => ?_)
  replace hp1 : BoxM o3 ∧ (Fr [(0, 0), (1, 9999)] o o3) ∧ (r1 = -1 ∨ r1 = -3 ∨ (r1 = 0 ∧ 0 ≤ x1 ∧ x1 < o.1 0 32)) := hp1
  obtain ⟨hB_o3, fc_o3, hp1⟩ := hp1
  have fr_o3 : Fr [(0, 0), (1, 9999)] o o3 := Fr.tr fr_o fc_o3 rfl
  have g0_32_o3 : o3.1 0 32 = o.1 0 32 := fc_o3.1 0 32 rfl
  refine T_qLt ⟨by omega, by omega⟩ ⟨by decide, by decide⟩ (fun h2 => ?_) (fun h2 => ?_)
  ·
    unfold b_X12_shown_20
    refine T_some ?_
    show BoxM o3 ∧ (Fr [(0, 0), (1, 9999)] o o3)
    exact ⟨hB_o3, fr_o3⟩
  ·
    refine T_qIn ⟨by omega, by omega⟩ ?_
    refine T_qNm (fun n5 e_n5 => ?_)
    have b_n5 : -9 ≤ n5 ∧ n5 ≤ 999 := by rw [e_n5]; exact bM_29 hB_o3 _
    unfold b_X12_shown_20
    refine T_some ?_
    show BoxM o3 ∧ (Fr [(0, 0), (1, 9999)] o o3)
    exact ⟨hB_o3, fr_o3⟩
set_option maxRecDepth 20000 in
set_option maxHeartbeats 4000000 in
theorem tl_X12_comes_29 (o : OO) (x2 : Int) (x3 : Int) (x4 : Int) (x8 : Int) (i_z5 : Int64) (i_x7 : Int) (i_x9 : Int) (hB_o : BoxM o) (k0 : 0 ≤ x2 ∧ x2 ≤ 63) (k1 : inR x3) (k2 : 0 ≤ x4 ∧ x4 ≤ 1) (k3 : 0 ≤ x8 ∧ x8 ≤ 63) (v0 : 0 ≤ i_x7 ∧ i_x7 ≤ 1) (v1 : 0 ≤ i_x9 ∧ i_x9 ≤ 4) (v2 : (i_x7 = i_x7 ∧ CB i_z5 = CB i_z5) ∨ (i_x7 = 1 ∧ CB i_z5 < CB i_z5)) (v3 : ZG o x4 i_z5 i_z5) (v4 : (0 : Int) = i_x7 → (0 : Int) = i_x7 ∧ i_z5 = i_z5 ∧ CCW o x3 x4 i_z5 x8 i_x9) : T (loopW (fun s => l_X12_comes_29 o x2 x3 x4 x8 s.1 s.2.1 s.2.2) (i_z5, i_x7, i_x9)) (fun r => (0 ≤ r.2 ∧ r.2 ≤ 1) ∧ ((r.2 = i_x7 ∧ CB r.1 = CB i_z5) ∨ (r.2 = 1 ∧ CB r.1 < CB i_z5)) ∧ (ZG o x4 i_z5 r.1) ∧ ((0 : Int) = r.2 → (0 : Int) = i_x7 ∧ r.1 = i_z5 ∧ CCW o x3 x4 r.1 x8 4)) := by
  refine T_loop (fun s => (0 ≤ s.2.1 ∧ s.2.1 ≤ 1) ∧ (0 ≤ s.2.2 ∧ s.2.2 ≤ 4) ∧ ((s.2.1 = i_x7 ∧ CB s.1 = CB i_z5) ∨ (s.2.1 = 1 ∧ CB s.1 < CB i_z5)) ∧ (ZG o x4 i_z5 s.1) ∧ ((0 : Int) = s.2.1 → (0 : Int) = i_x7 ∧ s.1 = i_z5 ∧ CCW o x3 x4 s.1 x8 s.2.2)) (fun s => (4 - s.2.2).toNat) ⟨v0, v1, v2, v3, v4⟩ (fun s hs => ?_)
  obtain ⟨z5, x7, x9⟩ := s
  replace hs : (0 ≤ x7 ∧ x7 ≤ 1) ∧ (0 ≤ x9 ∧ x9 ≤ 4) ∧ ((x7 = i_x7 ∧ CB z5 = CB i_z5) ∨ (x7 = 1 ∧ CB z5 < CB i_z5)) ∧ (ZG o x4 i_z5 z5) ∧ ((0 : Int) = x7 → (0 : Int) = i_x7 ∧ z5 = i_z5 ∧ CCW o x3 x4 z5 x8 x9) := hs
  obtain ⟨w0, w1, w2, w3, w4⟩ := hs
  show T (l_X12_comes_29 o x2 x3 x4 x8 z5 x7 x9) _
  unfold l_X12_comes_29
  refine T_qLt ⟨by omega, by omega⟩ ⟨by decide, by decide⟩ (fun h1 => ?_) (fun h1 => ?_)
  ·
    refine T_qB (t_X12_beside x8 x9 (by omega) (by omega)) (fun r4 hc_r4 hp2 => ?_)
    replace hp2 : (r4 = -9 ∨ (0 ≤ r4 ∧ r4 ≤ 63 ∧ (x9 = 0 ∧ r4 = x8 - 8 ∨ x9 = 1 ∧ r4 = x8 - 1 ∨ x9 = 2 ∧ r4 = x8 + 1 ∨ x9 = 3 ∧ r4 = x8 + 8))) ∧ (r4 = bsd x8 x9) := hp2
    have hps_hp2 := hp2
    obtain ⟨hp2_0, hp2_1⟩ := hps_hp2
    replace hp2 := hid hp2
    have hq4 := hp2_1
    refine T_qB (t_X12_has z5 x8 (by omega)) (fun r6 hc_r6 hp3 => ?_)
    replace hp3 : ((r6 = 1 ∧ bt z5 x8.toNat = true) ∨ (r6 = 0 ∧ bt z5 x8.toNat = false)) := hp3
    have hb_r6 : r6 = 0 → bt z5 x8.toNat = false := fun e => hp3.elim (fun q => absurd (q.1.symm.trans e) (by decide)) (fun q => q.2)
    have cc6 : r6 = 0 → CCt o x3 x4 z5 x8 x9 := fun e q => by rw [hb_r6 e] at q; cases q
    have hb_r6 := fun e : r6 = 0 => Or.elim hp3 (fun q => absurd (q.1.symm.trans e) (by decide)) (fun q => q.2)
    refine T_qEq ⟨by omega, by omega⟩ ⟨by decide, by decide⟩ (fun h4 => ?_) (fun h4 => ?_)
    ·
      unfold b_X12_comes_103
      refine T_some ?_
      show ((0 ≤ x7 ∧ x7 ≤ 1) ∧ (0 ≤ (x9 + 1) ∧ (x9 + 1) ≤ 4) ∧ ((x7 = i_x7 ∧ CB z5 = CB i_z5) ∨ (x7 = 1 ∧ CB z5 < CB i_z5)) ∧ (ZG o x4 i_z5 z5) ∧ ((0 : Int) = x7 → (0 : Int) = i_x7 ∧ z5 = i_z5 ∧ CCW o x3 x4 z5 x8 (x9 + 1))) ∧ (4 - (x9 + 1)).toNat < (4 - x9).toNat
      exact ⟨⟨(by omega), (by omega), (by omega), (by first | assumption | exact ZG_rf | exact ZG_tr w1 zg9 | exact ZG_tr w3 zg9 | (rw [e_m3]; exact ZG_or w3 (by omega) (by omega) (by omega))), (by first | assumption | exact (fun e => absurd e (by decide)) | exact (fun e => ⟨e, rfl, CCW_0⟩) | exact (fun e => ⟨(w4 e).1, (w4 e).2.1, CCW_s (w4 e).2.2 (cc6 (by omega))⟩) | exact (fun e => ⟨(w4 e).1, (w4 e).2.1, CCW_s (w4 e).2.2 (cc8 (by omega))⟩) | exact (fun e => ⟨(w4 e).1, (w4 e).2.1, CCW_s (w4 e).2.2 (cc10 (by omega))⟩) | exact (fun e => ⟨(w4 e).1, (w4 e).2.1, CCW_s (w4 e).2.2 (cc13 (by omega) (by omega))⟩) | (intro e; have q9 := w4 e; rwa [show x9 = 4 by omega] at q9))⟩, by omega⟩
    ·
      refine T_qB (t_X12_leads o x8 r4 x3 hB_o (by omega) (by omega) (by omega)) (fun r8 hc_r8 hp5 => ?_)
      replace hp5 : ((r8 = 1 ∧ 0 ≤ r4) ∨ r8 = 0) := hp5
      have cc8 : r8 = 0 → CCt o x3 x4 z5 x8 x9 := fun e _ q => by obtain ⟨v, q1, q2⟩ := q; rw [← hq4, hc_r8] at q1; have := Option.some.inj q1; omega
      refine T_qEq ⟨by omega, by omega⟩ ⟨by decide, by decide⟩ (fun h6 => ?_) (fun h6 => ?_)
      ·
        unfold b_X12_comes_103
        refine T_some ?_
        show ((0 ≤ x7 ∧ x7 ≤ 1) ∧ (0 ≤ (x9 + 1) ∧ (x9 + 1) ≤ 4) ∧ ((x7 = i_x7 ∧ CB z5 = CB i_z5) ∨ (x7 = 1 ∧ CB z5 < CB i_z5)) ∧ (ZG o x4 i_z5 z5) ∧ ((0 : Int) = x7 → (0 : Int) = i_x7 ∧ z5 = i_z5 ∧ CCW o x3 x4 z5 x8 (x9 + 1))) ∧ (4 - (x9 + 1)).toNat < (4 - x9).toNat
        exact ⟨⟨(by omega), (by omega), (by omega), (by first | assumption | exact ZG_rf | exact ZG_tr w1 zg9 | exact ZG_tr w3 zg9 | (rw [e_m3]; exact ZG_or w3 (by omega) (by omega) (by omega))), (by first | assumption | exact (fun e => absurd e (by decide)) | exact (fun e => ⟨e, rfl, CCW_0⟩) | exact (fun e => ⟨(w4 e).1, (w4 e).2.1, CCW_s (w4 e).2.2 (cc6 (by omega))⟩) | exact (fun e => ⟨(w4 e).1, (w4 e).2.1, CCW_s (w4 e).2.2 (cc8 (by omega))⟩) | exact (fun e => ⟨(w4 e).1, (w4 e).2.1, CCW_s (w4 e).2.2 (cc10 (by omega))⟩) | exact (fun e => ⟨(w4 e).1, (w4 e).2.1, CCW_s (w4 e).2.2 (cc13 (by omega) (by omega))⟩) | (intro e; have q9 := w4 e; rwa [show x9 = 4 by omega] at q9))⟩, by omega⟩
      ·
        refine T_qB (t_X12_has z5 r4 (by omega)) (fun r10 hc_r10 hp7 => ?_)
        replace hp7 : ((r10 = 1 ∧ bt z5 r4.toNat = true) ∨ (r10 = 0 ∧ bt z5 r4.toNat = false)) := hp7
        have cc10 : ¬ r10 = 0 → CCt o x3 x4 z5 x8 x9 := fun e _ _ _ => by rw [← hq4]; exact hp7.elim (fun q => q.2) (fun q => absurd q.1 e)
        have hb_r10 := fun e : r10 = 0 => Or.elim hp7 (fun q => absurd (q.1.symm.trans e) (by decide)) (fun q => q.2)
        refine T_qEq ⟨by omega, by omega⟩ ⟨by decide, by decide⟩ (fun h8 => ?_) (fun h8 => ?_)
        ·
          refine T_qEq ⟨by omega, by omega⟩ ⟨by decide, by decide⟩ (fun h9 => ?_) (fun h9 => ?_)
          ·
            refine T_qIn ⟨by omega, by omega⟩ ?_
            refine T_qNm (fun n13 e_n13 => ?_)
            have b_n13 : 0 ≤ n13 ∧ n13 ≤ 1 := by rw [e_n13]; exact bM_58 hB_o _
            have cc13 : x4 = 0 → ¬ n13 = 0 → CCt o x3 x4 z5 x8 x9 := fun e e2 _ _ q => by rw [← hq4, ← e_n13] at q; omega
            refine T_qEq ⟨by omega, by omega⟩ ⟨by decide, by decide⟩ (fun h10 => ?_) (fun h10 => ?_)
            ·
              unfold b_X12_comes_91
              refine T_qNm (fun m3 e_m3 => ?_)
              have cb9 : CB m3 = CB z5 - 1 := by rw [e_m3]; exact CB_or (by omega) (by omega) (hb_r10 (by omega))
              unfold b_X12_comes_103
              refine T_some ?_
              show ((0 ≤ 1 ∧ 1 ≤ 1) ∧ (0 ≤ (x9 + 1) ∧ (x9 + 1) ≤ 4) ∧ ((1 = i_x7 ∧ CB m3 = CB i_z5) ∨ (1 = 1 ∧ CB m3 < CB i_z5)) ∧ (ZG o x4 i_z5 m3) ∧ ((0 : Int) = 1 → (0 : Int) = i_x7 ∧ m3 = i_z5 ∧ CCW o x3 x4 m3 x8 (x9 + 1))) ∧ (4 - (x9 + 1)).toNat < (4 - x9).toNat
              exact ⟨⟨(by omega), (by omega), (by omega), (by first | assumption | exact ZG_rf | exact ZG_tr w1 zg9 | exact ZG_tr w3 zg9 | (rw [e_m3]; exact ZG_or w3 (by omega) (by omega) (by omega))), (by first | assumption | exact (fun e => absurd e (by decide)) | exact (fun e => ⟨e, rfl, CCW_0⟩) | exact (fun e => ⟨(w4 e).1, (w4 e).2.1, CCW_s (w4 e).2.2 (cc6 (by omega))⟩) | exact (fun e => ⟨(w4 e).1, (w4 e).2.1, CCW_s (w4 e).2.2 (cc8 (by omega))⟩) | exact (fun e => ⟨(w4 e).1, (w4 e).2.1, CCW_s (w4 e).2.2 (cc10 (by omega))⟩) | exact (fun e => ⟨(w4 e).1, (w4 e).2.1, CCW_s (w4 e).2.2 (cc13 (by omega) (by omega))⟩) | (intro e; have q9 := w4 e; rwa [show x9 = 4 by omega] at q9))⟩, by omega⟩
            ·
              unfold b_X12_comes_103
              refine T_some ?_
              show ((0 ≤ x7 ∧ x7 ≤ 1) ∧ (0 ≤ (x9 + 1) ∧ (x9 + 1) ≤ 4) ∧ ((x7 = i_x7 ∧ CB z5 = CB i_z5) ∨ (x7 = 1 ∧ CB z5 < CB i_z5)) ∧ (ZG o x4 i_z5 z5) ∧ ((0 : Int) = x7 → (0 : Int) = i_x7 ∧ z5 = i_z5 ∧ CCW o x3 x4 z5 x8 (x9 + 1))) ∧ (4 - (x9 + 1)).toNat < (4 - x9).toNat
              exact ⟨⟨(by omega), (by omega), (by omega), (by first | assumption | exact ZG_rf | exact ZG_tr w1 zg9 | exact ZG_tr w3 zg9 | (rw [e_m3]; exact ZG_or w3 (by omega) (by omega) (by omega))), (by first | assumption | exact (fun e => absurd e (by decide)) | exact (fun e => ⟨e, rfl, CCW_0⟩) | exact (fun e => ⟨(w4 e).1, (w4 e).2.1, CCW_s (w4 e).2.2 (cc6 (by omega))⟩) | exact (fun e => ⟨(w4 e).1, (w4 e).2.1, CCW_s (w4 e).2.2 (cc8 (by omega))⟩) | exact (fun e => ⟨(w4 e).1, (w4 e).2.1, CCW_s (w4 e).2.2 (cc10 (by omega))⟩) | exact (fun e => ⟨(w4 e).1, (w4 e).2.1, CCW_s (w4 e).2.2 (cc13 (by omega) (by omega))⟩) | (intro e; have q9 := w4 e; rwa [show x9 = 4 by omega] at q9))⟩, by omega⟩
          ·
            unfold b_X12_comes_91
            refine T_qNm (fun m3 e_m3 => ?_)
            have cb9 : CB m3 = CB z5 - 1 := by rw [e_m3]; exact CB_or (by omega) (by omega) (hb_r10 (by omega))
            unfold b_X12_comes_103
            refine T_some ?_
            show ((0 ≤ 1 ∧ 1 ≤ 1) ∧ (0 ≤ (x9 + 1) ∧ (x9 + 1) ≤ 4) ∧ ((1 = i_x7 ∧ CB m3 = CB i_z5) ∨ (1 = 1 ∧ CB m3 < CB i_z5)) ∧ (ZG o x4 i_z5 m3) ∧ ((0 : Int) = 1 → (0 : Int) = i_x7 ∧ m3 = i_z5 ∧ CCW o x3 x4 m3 x8 (x9 + 1))) ∧ (4 - (x9 + 1)).toNat < (4 - x9).toNat
            exact ⟨⟨(by omega), (by omega), (by omega), (by first | assumption | exact ZG_rf | exact ZG_tr w1 zg9 | exact ZG_tr w3 zg9 | (rw [e_m3]; exact ZG_or w3 (by omega) (by omega) (by omega))), (by first | assumption | exact (fun e => absurd e (by decide)) | exact (fun e => ⟨e, rfl, CCW_0⟩) | exact (fun e => ⟨(w4 e).1, (w4 e).2.1, CCW_s (w4 e).2.2 (cc6 (by omega))⟩) | exact (fun e => ⟨(w4 e).1, (w4 e).2.1, CCW_s (w4 e).2.2 (cc8 (by omega))⟩) | exact (fun e => ⟨(w4 e).1, (w4 e).2.1, CCW_s (w4 e).2.2 (cc10 (by omega))⟩) | exact (fun e => ⟨(w4 e).1, (w4 e).2.1, CCW_s (w4 e).2.2 (cc13 (by omega) (by omega))⟩) | (intro e; have q9 := w4 e; rwa [show x9 = 4 by omega] at q9))⟩, by omega⟩
        ·
          unfold b_X12_comes_103
          refine T_some ?_
          show ((0 ≤ x7 ∧ x7 ≤ 1) ∧ (0 ≤ (x9 + 1) ∧ (x9 + 1) ≤ 4) ∧ ((x7 = i_x7 ∧ CB z5 = CB i_z5) ∨ (x7 = 1 ∧ CB z5 < CB i_z5)) ∧ (ZG o x4 i_z5 z5) ∧ ((0 : Int) = x7 → (0 : Int) = i_x7 ∧ z5 = i_z5 ∧ CCW o x3 x4 z5 x8 (x9 + 1))) ∧ (4 - (x9 + 1)).toNat < (4 - x9).toNat
          exact ⟨⟨(by omega), (by omega), (by omega), (by first | assumption | exact ZG_rf | exact ZG_tr w1 zg9 | exact ZG_tr w3 zg9 | (rw [e_m3]; exact ZG_or w3 (by omega) (by omega) (by omega))), (by first | assumption | exact (fun e => absurd e (by decide)) | exact (fun e => ⟨e, rfl, CCW_0⟩) | exact (fun e => ⟨(w4 e).1, (w4 e).2.1, CCW_s (w4 e).2.2 (cc6 (by omega))⟩) | exact (fun e => ⟨(w4 e).1, (w4 e).2.1, CCW_s (w4 e).2.2 (cc8 (by omega))⟩) | exact (fun e => ⟨(w4 e).1, (w4 e).2.1, CCW_s (w4 e).2.2 (cc10 (by omega))⟩) | exact (fun e => ⟨(w4 e).1, (w4 e).2.1, CCW_s (w4 e).2.2 (cc13 (by omega) (by omega))⟩) | (intro e; have q9 := w4 e; rwa [show x9 = 4 by omega] at q9))⟩, by omega⟩
  ·
    refine T_some ?_
    show (0 ≤ x7 ∧ x7 ≤ 1) ∧ ((x7 = i_x7 ∧ CB z5 = CB i_z5) ∨ (x7 = 1 ∧ CB z5 < CB i_z5)) ∧ (ZG o x4 i_z5 z5) ∧ ((0 : Int) = x7 → (0 : Int) = i_x7 ∧ z5 = i_z5 ∧ CCW o x3 x4 z5 x8 4)
    exact ⟨(by omega), (by omega), (by first | assumption | exact ZG_rf | exact ZG_tr w1 zg9 | exact ZG_tr w3 zg9 | (rw [e_m3]; exact ZG_or w3 (by omega) (by omega) (by omega))), (by first | assumption | exact (fun e => absurd e (by decide)) | exact (fun e => ⟨e, rfl, CCW_0⟩) | exact (fun e => ⟨(w4 e).1, (w4 e).2.1, CCW_s (w4 e).2.2 (cc6 (by omega))⟩) | exact (fun e => ⟨(w4 e).1, (w4 e).2.1, CCW_s (w4 e).2.2 (cc8 (by omega))⟩) | exact (fun e => ⟨(w4 e).1, (w4 e).2.1, CCW_s (w4 e).2.2 (cc10 (by omega))⟩) | exact (fun e => ⟨(w4 e).1, (w4 e).2.1, CCW_s (w4 e).2.2 (cc13 (by omega) (by omega))⟩) | (intro e; have q9 := w4 e; rwa [show x9 = 4 by omega] at q9))⟩
set_option maxRecDepth 20000 in
set_option maxHeartbeats 4000000 in
theorem tl_X12_comes_19 (o : OO) (x2 : Int) (x3 : Int) (x4 : Int) (i_z5 : Int64) (i_x7 : Int) (i_x8 : Int) (hB_o : BoxM o) (k0 : 0 ≤ x2 ∧ x2 ≤ 63) (k1 : inR x3) (k2 : 0 ≤ x4 ∧ x4 ≤ 1) (v0 : 0 ≤ i_x7 ∧ i_x7 ≤ 1) (v1 : 0 ≤ i_x8 ∧ i_x8 ≤ 64) (v2 : (i_x7 = i_x7 ∧ CB i_z5 = CB i_z5) ∨ (i_x7 = 1 ∧ CB i_z5 < CB i_z5)) (v3 : ZG o x4 i_z5 i_z5) (v4 : (0 : Int) = i_x7 → CCC o x3 x4 i_z5 i_x8) : T (loopW (fun s => l_X12_comes_19 o x2 x3 x4 s.1 s.2.1 s.2.2) (i_z5, i_x7, i_x8)) (fun r => (0 ≤ r.2 ∧ r.2 ≤ 1) ∧ ((r.2 = i_x7 ∧ CB r.1 = CB i_z5) ∨ (r.2 = 1 ∧ CB r.1 < CB i_z5)) ∧ (ZG o x4 i_z5 r.1) ∧ ((0 : Int) = r.2 → CCC o x3 x4 r.1 64)) := by
  refine T_loop (fun s => (0 ≤ s.2.1 ∧ s.2.1 ≤ 1) ∧ (0 ≤ s.2.2 ∧ s.2.2 ≤ 64) ∧ ((s.2.1 = i_x7 ∧ CB s.1 = CB i_z5) ∨ (s.2.1 = 1 ∧ CB s.1 < CB i_z5)) ∧ (ZG o x4 i_z5 s.1) ∧ ((0 : Int) = s.2.1 → CCC o x3 x4 s.1 s.2.2)) (fun s => (64 - s.2.2).toNat) ⟨v0, v1, v2, v3, v4⟩ (fun s hs => ?_)
  obtain ⟨z5, x7, x8⟩ := s
  replace hs : (0 ≤ x7 ∧ x7 ≤ 1) ∧ (0 ≤ x8 ∧ x8 ≤ 64) ∧ ((x7 = i_x7 ∧ CB z5 = CB i_z5) ∨ (x7 = 1 ∧ CB z5 < CB i_z5)) ∧ (ZG o x4 i_z5 z5) ∧ ((0 : Int) = x7 → CCC o x3 x4 z5 x8) := hs
  obtain ⟨w0, w1, w2, w3, w4⟩ := hs
  show T (l_X12_comes_19 o x2 x3 x4 z5 x7 x8) _
  unfold l_X12_comes_19
  refine T_qLt ⟨by omega, by omega⟩ ⟨by decide, by decide⟩ (fun h11 => ?_) (fun h11 => ?_)
  ·
    unfold e_X12_comes_29
    refine T_qB (tl_X12_comes_29 o x2 x3 x4 x8 z5 x7 0 hB_o (by omega) (by omega) (by omega) (by omega) (by omega) (by omega) (by omega) (by first | assumption | exact ZG_rf | exact ZG_tr w1 zg9 | exact ZG_tr w3 zg9 | (rw [e_m3]; exact ZG_or w3 (by omega) (by omega) (by omega))) (by first | assumption | exact (fun e => absurd e (by decide)) | exact (fun e => ⟨e, rfl, CCW_0⟩) | exact (fun e => ⟨(w4 e).1, (w4 e).2.1, CCW_s (w4 e).2.2 (cc6 (by omega))⟩) | exact (fun e => ⟨(w4 e).1, (w4 e).2.1, CCW_s (w4 e).2.2 (cc8 (by omega))⟩) | exact (fun e => ⟨(w4 e).1, (w4 e).2.1, CCW_s (w4 e).2.2 (cc10 (by omega))⟩) | exact (fun e => ⟨(w4 e).1, (w4 e).2.1, CCW_s (w4 e).2.2 (cc13 (by omega) (by omega))⟩) | (intro e; have q9 := w4 e; rwa [show x9 = 4 by omega] at q9))) (fun r12 hc_r12 hp13 => ?_)
    obtain ⟨z5_14, x7_15⟩ := r12
    replace hp13 : (0 ≤ x7_15 ∧ x7_15 ≤ 1) ∧ ((x7_15 = x7 ∧ CB z5_14 = CB z5) ∨ (x7_15 = 1 ∧ CB z5_14 < CB z5)) ∧ (ZG o x4 z5 z5_14) ∧ ((0 : Int) = x7_15 → (0 : Int) = x7 ∧ z5_14 = z5 ∧ CCW o x3 x4 z5_14 x8 4) := hp13
    have hps_hp13 := hp13
    obtain ⟨hp13_0, hp13_1, hp13_2, hp13_3⟩ := hps_hp13
    replace hp13 := hid hp13
    show T (b_X12_comes_109 o x2 x3 x4 z5_14 x7_15 x8) _
    have zm9 : (0 : Int) = x7_15 → (0 : Int) = x7 ∧ z5_14 = z5 ∧ CCW o x3 x4 z5_14 x8 4 := by assumption
    have zg9 : ZG o x4 z5 z5_14 := by assumption
    unfold b_X12_comes_109
    refine T_some ?_
    show ((0 ≤ x7_15 ∧ x7_15 ≤ 1) ∧ (0 ≤ (x8 + 1) ∧ (x8 + 1) ≤ 64) ∧ ((x7_15 = i_x7 ∧ CB z5_14 = CB i_z5) ∨ (x7_15 = 1 ∧ CB z5_14 < CB i_z5)) ∧ (ZG o x4 i_z5 z5_14) ∧ ((0 : Int) = x7_15 → CCC o x3 x4 z5_14 (x8 + 1))) ∧ (64 - (x8 + 1)).toNat < (64 - x8).toNat
    exact ⟨⟨(by omega), (by omega), (by omega), (by first | assumption | exact ZG_rf | exact ZG_tr w1 zg9 | exact ZG_tr w3 zg9 | (rw [e_m3]; exact ZG_or w3 (by omega) (by omega) (by omega))), (by first | assumption | exact (fun e => absurd e (by decide)) | exact (fun _ => CCC_0) | exact (fun e => CCC_s (zm9 e).2.1 (w4 (zm9 e).1) (zm9 e).2.2) | (intro e; have q9 := w4 e; rwa [show x8 = 64 by omega] at q9))⟩, by omega⟩
  ·
    refine T_some ?_
    show (0 ≤ x7 ∧ x7 ≤ 1) ∧ ((x7 = i_x7 ∧ CB z5 = CB i_z5) ∨ (x7 = 1 ∧ CB z5 < CB i_z5)) ∧ (ZG o x4 i_z5 z5) ∧ ((0 : Int) = x7 → CCC o x3 x4 z5 64)
    exact ⟨(by omega), (by omega), (by first | assumption | exact ZG_rf | exact ZG_tr w1 zg9 | exact ZG_tr w3 zg9 | (rw [e_m3]; exact ZG_or w3 (by omega) (by omega) (by omega))), (by first | assumption | exact (fun e => absurd e (by decide)) | exact (fun _ => CCC_0) | exact (fun e => CCC_s (zm9 e).2.1 (w4 (zm9 e).1) (zm9 e).2.2) | (intro e; have q9 := w4 e; rwa [show x8 = 64 by omega] at q9))⟩
set_option maxRecDepth 20000 in
set_option maxHeartbeats 4000000 in
theorem tl_X12_comes_8 (o : OO) (x2 : Int) (x3 : Int) (x4 : Int) (i_z5 : Int64) (i_x7 : Int) (hB_o : BoxM o) (k0 : 0 ≤ x2 ∧ x2 ≤ 63) (k1 : inR x3) (k2 : 0 ≤ x4 ∧ x4 ≤ 1) (v0 : 0 ≤ i_x7 ∧ i_x7 ≤ 1) (v1 : ZG o x4 i_z5 i_z5) (v2 : (0 : Int) = i_x7 → CCC o x3 x4 i_z5 64) : T (loopW (fun s => l_X12_comes_8 o x2 x3 x4 s.1 s.2) (i_z5, i_x7)) (fun r => (ZG o x4 i_z5 r) ∧ (CCC o x3 x4 r 64)) := by
  refine T_loop (fun s => (0 ≤ s.2 ∧ s.2 ≤ 1) ∧ (ZG o x4 i_z5 s.1) ∧ ((0 : Int) = s.2 → CCC o x3 x4 s.1 64)) (fun s => (CB s.1).toNat + s.2.toNat) ⟨v0, v1, v2⟩ (fun s hs => ?_)
  obtain ⟨z5, x7⟩ := s
  replace hs : (0 ≤ x7 ∧ x7 ≤ 1) ∧ (ZG o x4 i_z5 z5) ∧ ((0 : Int) = x7 → CCC o x3 x4 z5 64) := hs
  obtain ⟨w0, w1, w2⟩ := hs
  have cbn := CB_nn z5
  show T (l_X12_comes_8 o x2 x3 x4 z5 x7) _
  unfold l_X12_comes_8
  refine T_qEq ⟨by omega, by omega⟩ ⟨by decide, by decide⟩ (fun h16 => ?_) (fun h16 => ?_)
  ·
    refine T_some ?_
    show (ZG o x4 i_z5 z5) ∧ (CCC o x3 x4 z5 64)
    exact ⟨(by first | assumption | exact ZG_rf | exact ZG_tr w1 zg9 | exact ZG_tr w3 zg9 | (rw [e_m3]; exact ZG_or w3 (by omega) (by omega) (by omega))), (w2 (by omega))⟩
  ·
    unfold e_X12_comes_19
    refine T_qB (tl_X12_comes_19 o x2 x3 x4 z5 0 0 hB_o (by omega) (by omega) (by omega) (by omega) (by omega) (by omega) (by first | assumption | exact ZG_rf | exact ZG_tr w1 zg9 | exact ZG_tr w3 zg9 | (rw [e_m3]; exact ZG_or w3 (by omega) (by omega) (by omega))) (by first | assumption | exact (fun e => absurd e (by decide)) | exact (fun _ => CCC_0) | exact (fun e => CCC_s (zm9 e).2.1 (w4 (zm9 e).1) (zm9 e).2.2) | (intro e; have q9 := w4 e; rwa [show x8 = 64 by omega] at q9))) (fun r17 hc_r17 hp18 => ?_)
    obtain ⟨z5_19, x7_20⟩ := r17
    replace hp18 : (0 ≤ x7_20 ∧ x7_20 ≤ 1) ∧ ((x7_20 = 0 ∧ CB z5_19 = CB z5) ∨ (x7_20 = 1 ∧ CB z5_19 < CB z5)) ∧ (ZG o x4 z5 z5_19) ∧ ((0 : Int) = x7_20 → CCC o x3 x4 z5_19 64) := hp18
    have hps_hp18 := hp18
    obtain ⟨hp18_0, hp18_1, hp18_2, hp18_3⟩ := hps_hp18
    replace hp18 := hid hp18
    show T (b_X12_comes_115 o x2 x3 x4 z5_19 x7_20) _
    have cbm := CB_nn z5_19
    have zg9 : ZG o x4 z5 z5_19 := by assumption
    unfold b_X12_comes_115
    refine T_some ?_
    show ((0 ≤ x7_20 ∧ x7_20 ≤ 1) ∧ (ZG o x4 i_z5 z5_19) ∧ ((0 : Int) = x7_20 → CCC o x3 x4 z5_19 64)) ∧ (CB z5_19).toNat + x7_20.toNat < (CB z5).toNat + x7.toNat
    exact ⟨⟨(by omega), (by first | assumption | exact ZG_rf | exact ZG_tr w1 zg9 | exact ZG_tr w3 zg9 | (rw [e_m3]; exact ZG_or w3 (by omega) (by omega) (by omega))), (by first | assumption | exact (fun e => absurd e (by decide)) | exact (fun _ => CCC_0) | exact (fun e => CCC_s (zm9 e).2.1 (w4 (zm9 e).1) (zm9 e).2.2) | (intro e; have q9 := w4 e; rwa [show x8 = 64 by omega] at q9))⟩, by omega⟩
set_option maxRecDepth 20000 in
set_option maxHeartbeats 4000000 in
theorem t_X12_comes (o : OO) (x1 : Int) (x2 : Int) (x3 : Int) (x4 : Int) (hB_o : BoxM o) (k0 : 0 ≤ x1 ∧ x1 ≤ 63) (k1 : 0 ≤ x2 ∧ x2 ≤ 63) (k2 : inR x3) (k3 : 0 ≤ x4 ∧ x4 ≤ 1) : T (s_X12_comes o x1 x2 x3 x4) (fun v => (0 ≤ v ∧ v ≤ 1) ∧ ((0 : Int) = v → CMS o x1 x2 x3 x4)) := by
  unfold s_X12_comes
  refine T_qNm (fun m14 e_m14 => ?_)
  unfold e_X12_comes_8
  refine T_qB (tl_X12_comes_8 o x2 x3 x4 m14 1 hB_o (by omega) (by omega) (by omega) (by omega) (by first | assumption | exact ZG_rf | exact ZG_tr w1 zg9 | exact ZG_tr w3 zg9 | (rw [e_m3]; exact ZG_or w3 (by omega) (by omega) (by omega))) (by first | assumption | exact (fun e => absurd e (by decide)) | exact (fun _ => CCC_0) | exact (fun e => CCC_s (zm9 e).2.1 (w4 (zm9 e).1) (zm9 e).2.2) | (intro e; have q9 := w4 e; rwa [show x8 = 64 by omega] at q9))) (fun r21 hc_r21 hp22 => ?_)
  obtain ⟨z5_23, q_z5_23⟩ : ∃ q, q = r21 := ⟨_, rfl⟩
  subst q_z5_23
  replace hp22 : (ZG o x4 m14 z5_23) ∧ (CCC o x3 x4 z5_23 64) := hp22
  have hps_hp22 := hp22
  obtain ⟨hp22_0, hp22_1⟩ := hps_hp22
  replace hp22 := hid hp22
  show T (b_X12_comes_118 o x2 z5_23) _
  have zg9 : ZG o x4 m14 z5_23 := by assumption
  have cc9 : CCC o x3 x4 z5_23 64 := by assumption
  unfold b_X12_comes_118
  refine T_qB (t_X12_has z5_23 x2 (by omega)) (fun r1 hc_r1 hp24 => ?_)
  replace hp24 : ((r1 = 1 ∧ bt z5_23 x2.toNat = true) ∨ (r1 = 0 ∧ bt z5_23 x2.toNat = false)) := hp24
  have hb1 : (0 : Int) = r1 → bt z5_23 x2.toNat = false := fun e => hp24.elim (fun q => absurd (q.1.symm.trans e.symm) (by decide)) (fun q => q.2)
  have hb_r1 := fun e : r1 = 0 => Or.elim hp24 (fun q => absurd (q.1.symm.trans e) (by decide)) (fun q => q.2)
  refine T_qZ (by omega) ?_
  refine T_some ?_
  show (0 ≤ r1 ∧ r1 ≤ 1) ∧ ((0 : Int) = r1 → CMS o x1 x2 x3 x4)
  exact ⟨(by omega), (fun e => CMS_of (by omega) (hb1 e) (by rw [← e_m14]; exact zg9) cc9)⟩
theorem t_X12_finds (o : OO) (x1 : Int) (x2 : Int) (x3 : Int) (hB_o : BoxM o) (k0 : 0 ≤ x1 ∧ x1 ≤ 63) (k1 : 0 ≤ x2 ∧ x2 ≤ 63) (k2 : inR x3) : T (s_X12_finds o x1 x2 x3) (fun v => BoxM v.2 ∧ (Fr [(61, 9999), (62, 9999)] o v.2) ∧ (0 ≤ v.1 ∧ v.1 ≤ 1)) := by sorry
set_option maxRecDepth 20000 in
set_option maxHeartbeats 4000000 in
theorem tl_X12_wayTo_2 (x0 : Int) (x1 : Int) (i_x2 : Int) (k0 : 0 ≤ x0 ∧ x0 ≤ 63) (k1 : 0 ≤ x1 ∧ x1 ≤ 63) (v0 : 0 ≤ i_x2) (v1 : NB x0 x1 i_x2) : T (loopW (fun s => l_X12_wayTo_2 x0 x1 s) i_x2) (fun r => (0 ≤ r ∧ r ≤ 3) ∧ (bsd x0 r = x1)) := by
  refine T_loop (fun s => (0 ≤ s) ∧ (NB x0 x1 s)) (fun s => (3 - s).toNat) ⟨v0, v1⟩ (fun s hs => ?_)
  obtain ⟨x2, q_x2⟩ : ∃ q, q = s := ⟨_, rfl⟩
  subst q_x2
  replace hs : (0 ≤ x2) ∧ (NB x0 x1 x2) := hs
  obtain ⟨w0, w1⟩ := hs
  have nb3 := w1.le
  show T (l_X12_wayTo_2 x0 x1 x2) _
  unfold l_X12_wayTo_2
  refine T_qB (t_X12_beside x0 x2 (by omega) (by omega)) (fun r1 hc_r1 hp1 => ?_)
  replace hp1 : (r1 = -9 ∨ (0 ≤ r1 ∧ r1 ≤ 63 ∧ (x2 = 0 ∧ r1 = x0 - 8 ∨ x2 = 1 ∧ r1 = x0 - 1 ∨ x2 = 2 ∧ r1 = x0 + 1 ∨ x2 = 3 ∧ r1 = x0 + 8))) ∧ (r1 = bsd x0 x2) := hp1
  have hps_hp1 := hp1
  obtain ⟨hp1_0, hp1_1⟩ := hps_hp1
  replace hp1 := hid hp1
  refine T_qEq ⟨by omega, by omega⟩ ⟨by omega, by omega⟩ (fun h2 => ?_) (fun h2 => ?_)
  ·
    refine T_some ?_
    show (0 ≤ x2 ∧ x2 ≤ 3) ∧ (bsd x0 x2 = x1)
    exact ⟨(by omega), (by omega)⟩
  ·
    refine T_some ?_
    show ((0 ≤ (x2 + 1)) ∧ (NB x0 x1 (x2 + 1))) ∧ (3 - (x2 + 1)).toNat < (3 - x2).toNat
    exact ⟨⟨(by omega), (by first | assumption | exact w1.s (by omega) | omega)⟩, by have := (w1.s (by omega)).le; omega⟩
set_option maxRecDepth 20000 in
set_option maxHeartbeats 4000000 in
theorem t_X12_wayTo (x0 : Int) (x1 : Int) (k0 : 0 ≤ x0 ∧ x0 ≤ 63) (k1 : 0 ≤ x1 ∧ x1 ≤ 63) (k2 : NB x0 x1 0) : T (s_X12_wayTo x0 x1) (fun v => (0 ≤ v ∧ v ≤ 3) ∧ (bsd x0 v = x1)) := by
  unfold s_X12_wayTo
  unfold e_X12_wayTo_2
  refine T_qB (tl_X12_wayTo_2 x0 x1 0 (by omega) (by omega) (by omega) (by first | assumption | exact w1.s (by omega) | omega)) (fun r3 hc_r3 hp4 => ?_)
  obtain ⟨x2_5, q_x2_5⟩ : ∃ q, q = r3 := ⟨_, rfl⟩
  subst q_x2_5
  replace hp4 : (0 ≤ x2_5 ∧ x2_5 ≤ 3) ∧ (bsd x0 x2_5 = x1) := hp4
  have hps_hp4 := hp4
  obtain ⟨hp4_0, hp4_1⟩ := hps_hp4
  replace hp4 := hid hp4
  show T (b_X12_wayTo_17 x2_5) _
  unfold b_X12_wayTo_17
  refine T_some ?_
  show (0 ≤ x2_5 ∧ x2_5 ≤ 3) ∧ (bsd x0 x2_5 = x1)
  exact ⟨(by omega), (by omega)⟩
theorem t_X12_goAlong (o : OO) (x1 : Int) (x2 : Int) (hB_o : BoxM o) (k0 : 0 ≤ x1 ∧ x1 ≤ 63) (k1 : 0 ≤ x2 ∧ x2 ≤ 63) : T (s_X12_goAlong o x1 x2) (fun v => BoxM v ∧ (Fr [(59, 9999), (60, 9999)] o v)) := by sorry
theorem t_X12_stop (o : OO) (x1 : Int) (x2 : Int) (hB_o : BoxM o) (k0 : inR x1) (k1 : inR x2) : T (s_X12_stop o x1 x2) (fun v => BoxM v.2 ∧ (Fr [(0, 0), (0, 3), (1, 9999), (58, 9999), (59, 9999), (60, 9999), (61, 9999), (62, 9999)] o v.2)) := by sorry
theorem tl_X12_firstValue_2 (o : OO) (x1 : Int) (k : Nat) (hk : (k : Int) < 100) (he : o.1 18 k = x1) (hB_o : BoxM o) (hx : 0 ≤ x1 ∧ x1 ≤ 31) : T (loopW (fun s => l_X12_firstValue_2 o x1 s) 0) (fun r => 0 ≤ r ∧ r ≤ 99) := by
  refine T_loop (fun s => 0 ≤ s ∧ s ≤ (k : Int)) (fun s => ((k : Int) - s).toNat) ⟨by omega, by omega⟩ (fun s hs => ?_)
  obtain ⟨h0, h1⟩ := hs
  show T (l_X12_firstValue_2 o x1 s) _
  unfold l_X12_firstValue_2
  refine T_qIn ⟨by omega, by omega⟩ ?_
  refine T_qNm (fun n4 e_n4 => ?_)
  have b_n4 := bM_18 hB_o s.toNat
  rw [← e_n4] at b_n4
  refine T_qEq ⟨by omega, by omega⟩ ⟨by omega, by omega⟩ (fun h => ?_) (fun h => ?_)
  · refine T_some ?_
    show 0 ≤ s ∧ s ≤ 99
    omega
  · refine T_some ?_
    have : s ≠ (k : Int) := fun e => h (by rw [e_n4, e, ← he]; rfl)
    show (0 ≤ s + 1 ∧ s + 1 ≤ (k : Int)) ∧ ((k : Int) - (s + 1)).toNat < ((k : Int) - s).toNat
    omega
theorem t_X12_firstValue (o : OO) (x1 : Int) (hB_o : BoxM o) (k0 : 0 ≤ x1) (k1 : x1 < o.1 0 17) (k2 : HT o) : T (s_X12_firstValue o x1) (fun v => (0 ≤ v ∧ v ≤ 100000)) := by
  obtain ⟨k, hk, he⟩ := k2 x1 k0 k1
  have g1 := bM_0_23 hB_o
  have g2 := bM_0_17 hB_o
  unfold s_X12_firstValue e_X12_firstValue_2
  refine T_qB (tl_X12_firstValue_2 o x1 k (by omega) he hB_o ⟨by omega, by omega⟩) (fun r hr hp => ?_)
  unfold b_X12_firstValue_18
  refine T_qIn ⟨by omega, by omega⟩ ?_
  refine T_qNm (fun n e => ?_)
  refine T_some ?_
  rw [e]
  exact bM_20 hB_o _
set_option maxRecDepth 20000 in
set_option maxHeartbeats 4000000 in
theorem tl_X12_take_146 (x1 : Int) (x4 : Int) (i_o : OO) (i_x5 : Int) (hB_i_o : BoxM i_o) (k0 : inR x1) (k1 : 0 ≤ x4 ∧ x4 ≤ 23) (v0 : 0 ≤ i_x5 ∧ i_x5 ≤ i_o.1 0 27) : T (loopW (fun s => l_X12_take_146 x1 x4 s.1 s.2) (i_o, i_x5)) (fun r => BoxM r ∧ (Fr [(21, 9999), (34, 9999)] i_o r)) := by
  have fr_i_o : Fr [(21, 9999), (34, 9999)] i_o i_o := Fr.rf
  refine T_loop (fun s => BoxM s.1 ∧ (Fr [(21, 9999), (34, 9999)] i_o s.1) ∧ (0 ≤ s.2 ∧ s.2 ≤ s.1.1 0 27)) (fun s => (s.1.1 0 27 - s.2).toNat) ⟨hB_i_o, fr_i_o, v0⟩ (fun s hs => ?_)
  obtain ⟨o, x5⟩ := s
  replace hs : BoxM o ∧ (Fr [(21, 9999), (34, 9999)] i_o o) ∧ (0 ≤ x5 ∧ x5 ≤ o.1 0 27) := hs
  obtain ⟨hB_o, fr_o, w0⟩ := hs
  have g0_27_i := bM_0_27 hB_i_o
  have g0_27_o : o.1 0 27 = i_o.1 0 27 := fr_o.1 0 27 rfl
  have g0_32_i := bM_0_32 hB_i_o
  have g0_32_o : o.1 0 32 = i_o.1 0 32 := fr_o.1 0 32 rfl
  have g0_17_i := bM_0_17 hB_i_o
  have g0_17_o : o.1 0 17 = i_o.1 0 17 := fr_o.1 0 17 rfl
  show T (l_X12_take_146 x1 x4 o x5) _
  unfold l_X12_take_146
  refine T_qLt ⟨by omega, by omega⟩ ⟨by omega, by omega⟩ (fun h1 => ?_) (fun h1 => ?_)
  ·
    refine T_qIn ⟨by omega, by omega⟩ ?_
    refine T_qNm (fun n10 e_n10 => ?_)
    have b_n10 : -9 ≤ n10 ∧ n10 ≤ 31 := by rw [e_n10]; exact bM_21 hB_o _
    refine T_qEq ⟨by omega, by omega⟩ ⟨by omega, by omega⟩ (fun h2 => ?_) (fun h2 => ?_)
    ·
      refine T_qIn ⟨by omega, by omega⟩ ?_
      refine T_qNm (fun m12 e_m12 => ?_)
      refine T_qIn ⟨by omega, by omega⟩ ?_
      refine T_qNm (fun o14 e_o14 => ?_)
      have hB_o14 : BoxM o14 := by rw [e_o14]; exact Box.s2 hB_o
      have fr_o14 : Fr [(21, 9999), (34, 9999)] i_o o14 := by rw [e_o14]; exact Fr.s2 fr_o rfl
      have g0_27_o14 : o14.1 0 27 = o.1 0 27 := by rw [e_o14]; rfl
      have g0_32_o14 : o14.1 0 32 = o.1 0 32 := by rw [e_o14]; rfl
      have g0_17_o14 : o14.1 0 17 = o.1 0 17 := by rw [e_o14]; rfl
      refine T_qIn ⟨by omega, by omega⟩ ?_
      refine T_qNm (fun o16 e_o16 => ?_)
      have hB_o16 : BoxM o16 := by rw [e_o16]; exact Box.s1 hB_o14 (show -9 ≤ (-9) ∧ (-9) ≤ 31 from ⟨by omega, by omega⟩)
      have fr_o16 : Fr [(21, 9999), (34, 9999)] i_o o16 := by rw [e_o16]; exact Fr.s1 fr_o14 rfl
      have g0_27_o16 : o16.1 0 27 = o14.1 0 27 := by rw [e_o16]; rfl
      have g0_32_o16 : o16.1 0 32 = o14.1 0 32 := by rw [e_o16]; rfl
      have g0_17_o16 : o16.1 0 17 = o14.1 0 17 := by rw [e_o16]; rfl
      unfold b_X12_take_189
      refine T_some ?_
      show (BoxM o16 ∧ (Fr [(21, 9999), (34, 9999)] i_o o16) ∧ (0 ≤ (x5 + 1) ∧ (x5 + 1) ≤ o16.1 0 27)) ∧ (o16.1 0 27 - (x5 + 1)).toNat < (o.1 0 27 - x5).toNat
      exact ⟨⟨hB_o16, fr_o16, (by omega)⟩, by omega⟩
    ·
      unfold b_X12_take_189
      refine T_some ?_
      show (BoxM o ∧ (Fr [(21, 9999), (34, 9999)] i_o o) ∧ (0 ≤ (x5 + 1) ∧ (x5 + 1) ≤ o.1 0 27)) ∧ (o.1 0 27 - (x5 + 1)).toNat < (o.1 0 27 - x5).toNat
      exact ⟨⟨hB_o, fr_o, (by omega)⟩, by omega⟩
  ·
    refine T_some ?_
    show BoxM o ∧ (Fr [(21, 9999), (34, 9999)] i_o o)
    exact ⟨hB_o, fr_o⟩
set_option maxRecDepth 20000 in
set_option maxHeartbeats 4000000 in
theorem t_X12_take (o : OO) (x1 : Int) (x2 : Int) (hB_o : BoxM o) (k0 : inR x1) (k1 : inR x2) (k2 : HT o) : T (s_X12_take o x1 x2) (fun v => BoxM v.2 ∧ (Fr [(0, 0), (0, 2), (0, 32), (1, 9999), (16, 9999), (21, 9999), (25, 9999), (26, 9999), (27, 9999), (29, 9999), (30, 9999), (32, 9999), (34, 9999)] o v.2)) := by
  have fr_o : Fr [(0, 0), (0, 2), (0, 32), (1, 9999), (16, 9999), (21, 9999), (25, 9999), (26, 9999), (27, 9999), (29, 9999), (30, 9999), (32, 9999), (34, 9999)] o o := Fr.rf
  have g0_27_o := bM_0_27 hB_o
  have g0_32_o := bM_0_32 hB_o
  have g0_17_o := bM_0_17 hB_o
  unfold s_X12_take
  refine T_qB (t_X12_isBuilding o x1 hB_o (by omega)) (fun r27 hc_r27 hp3 => ?_)
  replace hp3 : ((r27 = 1 ∧ 0 ≤ x1 ∧ x1 < o.1 0 17) ∨ (r27 = 0 ∧ (x1 < 0 ∨ o.1 0 17 ≤ x1))) := hp3
  refine T_qEq ⟨by omega, by omega⟩ ⟨by decide, by decide⟩ (fun h4 => ?_) (fun h4 => ?_)
  ·
    unfold b_X12_take_16
    refine T_some ?_
    show BoxM o ∧ (Fr [(0, 0), (0, 2), (0, 32), (1, 9999), (16, 9999), (21, 9999), (25, 9999), (26, 9999), (27, 9999), (29, 9999), (30, 9999), (32, 9999), (34, 9999)] o o)
    exact ⟨hB_o, fr_o⟩
  ·
    refine T_qB (t_X12_isMark o x2 hB_o (by omega)) (fun r29 hc_r29 hp5 => ?_)
    replace hp5 : ((r29 = 1 ∧ 0 ≤ x2 ∧ x2 < o.1 0 32) ∨ (r29 = 0 ∧ (x2 < 0 ∨ o.1 0 32 ≤ x2))) := hp5
    refine T_qEq ⟨by omega, by omega⟩ ⟨by decide, by decide⟩ (fun h6 => ?_) (fun h6 => ?_)
    ·
      unfold b_X12_take_16
      refine T_some ?_
      show BoxM o ∧ (Fr [(0, 0), (0, 2), (0, 32), (1, 9999), (16, 9999), (21, 9999), (25, 9999), (26, 9999), (27, 9999), (29, 9999), (30, 9999), (32, 9999), (34, 9999)] o o)
      exact ⟨hB_o, fr_o⟩
    ·
      refine T_qEq ⟨by omega, by omega⟩ ⟨by decide, by decide⟩ (fun h7 => ?_) (fun h7 => ?_)
      ·
        refine T_some ?_
        show BoxM o ∧ (Fr [(0, 0), (0, 2), (0, 32), (1, 9999), (16, 9999), (21, 9999), (25, 9999), (26, 9999), (27, 9999), (29, 9999), (30, 9999), (32, 9999), (34, 9999)] o o)
        exact ⟨hB_o, fr_o⟩
      ·
        refine T_qB (t_X12_isLine o x2 hB_o (by omega)) (fun r31 hc_r31 hp8 => ?_)
        replace hp8 : (0 ≤ r31 ∧ r31 ≤ 1) := hp8
        refine T_qEq ⟨by omega, by omega⟩ ⟨by decide, by decide⟩ (fun h9 => ?_) (fun h9 => ?_)
        ·
          refine T_qB2 (t_X12_meets o 3 hB_o (by omega)) (fun r49 o51 hc_r49 hp10 => ?_)
          replace hp10 : BoxM o51 ∧ (Fr [(0, 0), (1, 9999)] o o51) ∧ (r49 = -3) := hp10
          obtain ⟨hB_o51, fc_o51, hp10⟩ := hp10
          have fr_o51 : Fr [(0, 0), (0, 2), (0, 32), (1, 9999), (16, 9999), (21, 9999), (25, 9999), (26, 9999), (27, 9999), (29, 9999), (30, 9999), (32, 9999), (34, 9999)] o o51 := Fr.tr fr_o fc_o51 rfl
          have g0_27_o51 : o51.1 0 27 = o.1 0 27 := fc_o51.1 0 27 rfl
          have g0_32_o51 : o51.1 0 32 = o.1 0 32 := fc_o51.1 0 32 rfl
          have g0_17_o51 : o51.1 0 17 = o.1 0 17 := fc_o51.1 0 17 rfl
          refine T_some ?_
          show BoxM o51 ∧ (Fr [(0, 0), (0, 2), (0, 32), (1, 9999), (16, 9999), (21, 9999), (25, 9999), (26, 9999), (27, 9999), (29, 9999), (30, 9999), (32, 9999), (34, 9999)] o o51)
          exact ⟨hB_o51, fr_o51⟩
        ·
          refine T_qIn ⟨by omega, by omega⟩ ?_
          refine T_qNm (fun n34 e_n34 => ?_)
          have b_n34 : -9 ≤ n34 ∧ n34 ≤ 999 := by rw [e_n34]; exact bM_29 hB_o _
          refine T_qLt ⟨by omega, by omega⟩ ⟨by decide, by decide⟩ (fun h11 => ?_) (fun h11 => ?_)
          ·
            unfold b_X12_take_79
            refine T_some ?_
            show BoxM o ∧ (Fr [(0, 0), (0, 2), (0, 32), (1, 9999), (16, 9999), (21, 9999), (25, 9999), (26, 9999), (27, 9999), (29, 9999), (30, 9999), (32, 9999), (34, 9999)] o o)
            exact ⟨hB_o, fr_o⟩
          ·
            refine T_qIn ⟨by omega, by omega⟩ ?_
            refine T_qNm (fun n36 e_n36 => ?_)
            have b_n36 : 0 ≤ n36 ∧ n36 ≤ 1 := by rw [e_n36]; exact bM_16 hB_o _
            refine T_qEq ⟨by omega, by omega⟩ ⟨by decide, by decide⟩ (fun h12 => ?_) (fun h12 => ?_)
            ·
              refine T_qB (t_X12_cellsOf o x2 hB_o (by omega)) (fun p37 hc_p37 hp13 => ?_)
              refine T_qIn ⟨by omega, by omega⟩ ?_
              refine T_qNm (fun n40 e_n40 => ?_)
              have b_n40 : 0 ≤ n40 ∧ n40 ≤ 63 := by rw [e_n40]; exact bM_13 hB_o _
              refine T_qB (t_X12_has p37 n40 (by omega)) (fun r41 hc_r41 hp14 => ?_)
              replace hp14 : ((r41 = 1 ∧ bt p37 n40.toNat = true) ∨ (r41 = 0 ∧ bt p37 n40.toNat = false)) := hp14
              refine T_qEq ⟨by omega, by omega⟩ ⟨by decide, by decide⟩ (fun h15 => ?_) (fun h15 => ?_)
              ·
                unfold b_X12_take_79
                refine T_some ?_
                show BoxM o ∧ (Fr [(0, 0), (0, 2), (0, 32), (1, 9999), (16, 9999), (21, 9999), (25, 9999), (26, 9999), (27, 9999), (29, 9999), (30, 9999), (32, 9999), (34, 9999)] o o)
                exact ⟨hB_o, fr_o⟩
              ·
                refine T_qIn ⟨by omega, by omega⟩ ?_
                refine T_qNm (fun n44 e_n44 => ?_)
                have b_n44 : -9 ≤ n44 ∧ n44 ≤ 999 := by rw [e_n44]; exact bM_29 hB_o _
                refine T_qB (t_X12_valueOf o x1 (n44 - 1) hB_o (by omega) (by omega)) (fun r45 hc_r45 hp16 => ?_)
                replace hp16 : (-9 ≤ r45 ∧ r45 ≤ 100000) ∧ (r45 = -9 ∨ 0 ≤ r45) := hp16
                have hps_hp16 := hp16
                obtain ⟨hp16_0, hp16_1⟩ := hps_hp16
                replace hp16 := hid hp16
                refine T_qLt ⟨by omega, by omega⟩ ⟨by decide, by decide⟩ (fun h17 => ?_) (fun h17 => ?_)
                ·
                  refine T_qB (t_X12_firstValue o x1 hB_o (by omega) (by omega) k2) (fun r47 hc_r47 hp18 => ?_)
                  replace hp18 : (0 ≤ r47 ∧ r47 ≤ 100000) := hp18
                  unfold b_X12_take_109
                  refine T_qB2 (t_X12_enter o 3 x2 hB_o (by omega) (by omega) (by omega)) (fun r17 o19 hc_r17 hp19 => ?_)
                  replace hp19 : BoxM o19 ∧ (Fr [(0, 32), (25, 9999), (26, 9999), (27, 9999), (29, 9999), (30, 9999)] o o19) ∧ (r17 = o.1 0 32) ∧ (o19.1 0 32 = o.1 0 32 + 1) := hp19
                  obtain ⟨hB_o19, fc_o19, hp19⟩ := hp19
                  have fr_o19 : Fr [(0, 0), (0, 2), (0, 32), (1, 9999), (16, 9999), (21, 9999), (25, 9999), (26, 9999), (27, 9999), (29, 9999), (30, 9999), (32, 9999), (34, 9999)] o o19 := Fr.tr fr_o fc_o19 rfl
                  have g0_27_o19 : o19.1 0 27 = o.1 0 27 := fc_o19.1 0 27 rfl
                  have g0_32_o19 := bM_0_32 hB_o19
                  have g0_17_o19 : o19.1 0 17 = o.1 0 17 := fc_o19.1 0 17 rfl
                  refine T_qB (t_X12_nowInForce o19 2 hB_o19 (by omega)) (fun r20 hc_r20 hp20 => ?_)
                  replace hp20 : (0 ≤ r20 ∧ r20 ≤ 9999) := hp20
                  have hm9 := mul_rng (a := r20) (b := r47) (A := 9999) (B := 100000) (by omega) (by omega) (by omega) (by omega)
                  refine T_qDv ⟨⟨by omega, by omega⟩, ⟨by decide, by decide⟩, by decide⟩ ?_
                  have jd21 : jq (r20 * r47) 100 = (r20 * r47) / 100 := jq_nn (by omega)
                  refine T_qIn ⟨by omega, by omega⟩ ?_
                  refine T_qNm (fun o24 e_o24 => ?_)
                  have hB_o24 : BoxM o24 := by rw [e_o24]; exact Box.s1 hB_o19 (show 0 ≤ (jq (r20 * r47) 100) ∧ (jq (r20 * r47) 100) ≤ 10000000 from ⟨by omega, by omega⟩)
                  have fr_o24 : Fr [(0, 0), (0, 2), (0, 32), (1, 9999), (16, 9999), (21, 9999), (25, 9999), (26, 9999), (27, 9999), (29, 9999), (30, 9999), (32, 9999), (34, 9999)] o o24 := by rw [e_o24]; exact Fr.s1 fr_o19 rfl
                  have g0_27_o24 : o24.1 0 27 = o19.1 0 27 := by rw [e_o24]; rfl
                  have g0_32_o24 : o24.1 0 32 = o19.1 0 32 := by rw [e_o24]; rfl
                  have g0_17_o24 : o24.1 0 17 = o19.1 0 17 := by rw [e_o24]; rfl
                  refine T_qIn ⟨by omega, by omega⟩ ?_
                  refine T_qNm (fun o26 e_o26 => ?_)
                  have hB_o26 : BoxM o26 := by rw [e_o26]; exact Box.s2 hB_o24
                  have fr_o26 : Fr [(0, 0), (0, 2), (0, 32), (1, 9999), (16, 9999), (21, 9999), (25, 9999), (26, 9999), (27, 9999), (29, 9999), (30, 9999), (32, 9999), (34, 9999)] o o26 := by rw [e_o26]; exact Fr.s2 fr_o24 rfl
                  have g0_27_o26 : o26.1 0 27 = o24.1 0 27 := by rw [e_o26]; rfl
                  have g0_32_o26 : o26.1 0 32 = o24.1 0 32 := by rw [e_o26]; rfl
                  have g0_17_o26 : o26.1 0 17 = o24.1 0 17 := by rw [e_o26]; rfl
                  unfold e_X12_take_146
                  refine T_qB (tl_X12_take_146 x1 r17 o26 0 hB_o26 (by omega) (by omega) (by omega)) (fun r22 hc_r22 hp23 => ?_)
                  obtain ⟨o_24, q_o_24⟩ : ∃ q, q = r22 := ⟨_, rfl⟩
                  subst q_o_24
                  replace hp23 : BoxM o_24 ∧ (Fr [(21, 9999), (34, 9999)] o26 o_24) := hp23
                  have hps_hp23 := hp23
                  obtain ⟨hp23_0, hp23_1⟩ := hps_hp23
                  obtain ⟨hB_o_24, fc_o_24⟩ := hp23
                  have fr_o_24 : Fr [(0, 0), (0, 2), (0, 32), (1, 9999), (16, 9999), (21, 9999), (25, 9999), (26, 9999), (27, 9999), (29, 9999), (30, 9999), (32, 9999), (34, 9999)] o o_24 := Fr.tr fr_o26 fc_o_24 rfl
                  have g0_27_o_24 : o_24.1 0 27 = o26.1 0 27 := fc_o_24.1 0 27 rfl
                  have g0_32_o_24 : o_24.1 0 32 = o26.1 0 32 := fc_o_24.1 0 32 rfl
                  have g0_17_o_24 : o_24.1 0 17 = o26.1 0 17 := fc_o_24.1 0 17 rfl
                  show T (b_X12_take_195 o_24 x1 r17) _
                  unfold b_X12_take_195
                  refine T_qIn ⟨by omega, by omega⟩ ?_
                  refine T_qZ (Or.inr rfl) ?_
                  refine T_qNm (fun o3 e_o3 => ?_)
                  have hB_o3 : BoxM o3 := by rw [e_o3]; exact Box.s1 hB_o_24 (show 0 ≤ 1 ∧ 1 ≤ 1 from ⟨by omega, by omega⟩)
                  have fr_o3 : Fr [(0, 0), (0, 2), (0, 32), (1, 9999), (16, 9999), (21, 9999), (25, 9999), (26, 9999), (27, 9999), (29, 9999), (30, 9999), (32, 9999), (34, 9999)] o o3 := by rw [e_o3]; exact Fr.s1 fr_o_24 rfl
                  have g0_27_o3 : o3.1 0 27 = o_24.1 0 27 := by rw [e_o3]; rfl
                  have g0_32_o3 : o3.1 0 32 = o_24.1 0 32 := by rw [e_o3]; rfl
                  have g0_17_o3 : o3.1 0 17 = o_24.1 0 17 := by rw [e_o3]; rfl
                  refine T_qIn ⟨by omega, by omega⟩ ?_
                  refine T_qNm (fun n5 e_n5 => ?_)
                  have b_n5 : 0 ≤ n5 ∧ n5 ≤ 10000000 := by rw [e_n5]; exact bM_32 hB_o3 _
                  refine T_qB2 (t_X12_ask o3 n5 r17 hB_o3) (fun r6 o8 hc_r6 hp25 => ?_)
                  replace hp25 : BoxM o8 ∧ (Fr [(0, 2)] o3 o8) ∧ (r6 = r17) := hp25
                  obtain ⟨hB_o8, fc_o8, hp25⟩ := hp25
                  have fr_o8 : Fr [(0, 0), (0, 2), (0, 32), (1, 9999), (16, 9999), (21, 9999), (25, 9999), (26, 9999), (27, 9999), (29, 9999), (30, 9999), (32, 9999), (34, 9999)] o o8 := Fr.tr fr_o3 fc_o8 rfl
                  have g0_27_o8 : o8.1 0 27 = o3.1 0 27 := fc_o8.1 0 27 rfl
                  have g0_32_o8 : o8.1 0 32 = o3.1 0 32 := fc_o8.1 0 32 rfl
                  have g0_17_o8 : o8.1 0 17 = o3.1 0 17 := fc_o8.1 0 17 rfl
                  refine T_some ?_
                  show BoxM o8 ∧ (Fr [(0, 0), (0, 2), (0, 32), (1, 9999), (16, 9999), (21, 9999), (25, 9999), (26, 9999), (27, 9999), (29, 9999), (30, 9999), (32, 9999), (34, 9999)] o o8)
                  exact ⟨hB_o8, fr_o8⟩
                ·
                  unfold b_X12_take_109
                  refine T_qB2 (t_X12_enter o 3 x2 hB_o (by omega) (by omega) (by omega)) (fun r17 o19 hc_r17 hp26 => ?_)
                  replace hp26 : BoxM o19 ∧ (Fr [(0, 32), (25, 9999), (26, 9999), (27, 9999), (29, 9999), (30, 9999)] o o19) ∧ (r17 = o.1 0 32) ∧ (o19.1 0 32 = o.1 0 32 + 1) := hp26
                  obtain ⟨hB_o19, fc_o19, hp26⟩ := hp26
                  have fr_o19 : Fr [(0, 0), (0, 2), (0, 32), (1, 9999), (16, 9999), (21, 9999), (25, 9999), (26, 9999), (27, 9999), (29, 9999), (30, 9999), (32, 9999), (34, 9999)] o o19 := Fr.tr fr_o fc_o19 rfl
                  have g0_27_o19 : o19.1 0 27 = o.1 0 27 := fc_o19.1 0 27 rfl
                  have g0_32_o19 := bM_0_32 hB_o19
                  have g0_17_o19 : o19.1 0 17 = o.1 0 17 := fc_o19.1 0 17 rfl
                  refine T_qB (t_X12_nowInForce o19 2 hB_o19 (by omega)) (fun r20 hc_r20 hp27 => ?_)
                  replace hp27 : (0 ≤ r20 ∧ r20 ≤ 9999) := hp27
                  have hm9 := mul_rng (a := r20) (b := r45) (A := 9999) (B := 100000) (by omega) (by omega) (by omega) (by omega)
                  refine T_qDv ⟨⟨by omega, by omega⟩, ⟨by decide, by decide⟩, by decide⟩ ?_
                  have jd28 : jq (r20 * r45) 100 = (r20 * r45) / 100 := jq_nn (by omega)
                  refine T_qIn ⟨by omega, by omega⟩ ?_
                  refine T_qNm (fun o24 e_o24 => ?_)
                  have hB_o24 : BoxM o24 := by rw [e_o24]; exact Box.s1 hB_o19 (show 0 ≤ (jq (r20 * r45) 100) ∧ (jq (r20 * r45) 100) ≤ 10000000 from ⟨by omega, by omega⟩)
                  have fr_o24 : Fr [(0, 0), (0, 2), (0, 32), (1, 9999), (16, 9999), (21, 9999), (25, 9999), (26, 9999), (27, 9999), (29, 9999), (30, 9999), (32, 9999), (34, 9999)] o o24 := by rw [e_o24]; exact Fr.s1 fr_o19 rfl
                  have g0_27_o24 : o24.1 0 27 = o19.1 0 27 := by rw [e_o24]; rfl
                  have g0_32_o24 : o24.1 0 32 = o19.1 0 32 := by rw [e_o24]; rfl
                  have g0_17_o24 : o24.1 0 17 = o19.1 0 17 := by rw [e_o24]; rfl
                  refine T_qIn ⟨by omega, by omega⟩ ?_
                  refine T_qNm (fun o26 e_o26 => ?_)
                  have hB_o26 : BoxM o26 := by rw [e_o26]; exact Box.s2 hB_o24
                  have fr_o26 : Fr [(0, 0), (0, 2), (0, 32), (1, 9999), (16, 9999), (21, 9999), (25, 9999), (26, 9999), (27, 9999), (29, 9999), (30, 9999), (32, 9999), (34, 9999)] o o26 := by rw [e_o26]; exact Fr.s2 fr_o24 rfl
                  have g0_27_o26 : o26.1 0 27 = o24.1 0 27 := by rw [e_o26]; rfl
                  have g0_32_o26 : o26.1 0 32 = o24.1 0 32 := by rw [e_o26]; rfl
                  have g0_17_o26 : o26.1 0 17 = o24.1 0 17 := by rw [e_o26]; rfl
                  unfold e_X12_take_146
                  refine T_qB (tl_X12_take_146 x1 r17 o26 0 hB_o26 (by omega) (by omega) (by omega)) (fun r29 hc_r29 hp30 => ?_)
                  obtain ⟨o_31, q_o_31⟩ : ∃ q, q = r29 := ⟨_, rfl⟩
                  subst q_o_31
                  replace hp30 : BoxM o_31 ∧ (Fr [(21, 9999), (34, 9999)] o26 o_31) := hp30
                  have hps_hp30 := hp30
                  obtain ⟨hp30_0, hp30_1⟩ := hps_hp30
                  obtain ⟨hB_o_31, fc_o_31⟩ := hp30
                  have fr_o_31 : Fr [(0, 0), (0, 2), (0, 32), (1, 9999), (16, 9999), (21, 9999), (25, 9999), (26, 9999), (27, 9999), (29, 9999), (30, 9999), (32, 9999), (34, 9999)] o o_31 := Fr.tr fr_o26 fc_o_31 rfl
                  have g0_27_o_31 : o_31.1 0 27 = o26.1 0 27 := fc_o_31.1 0 27 rfl
                  have g0_32_o_31 : o_31.1 0 32 = o26.1 0 32 := fc_o_31.1 0 32 rfl
                  have g0_17_o_31 : o_31.1 0 17 = o26.1 0 17 := fc_o_31.1 0 17 rfl
                  show T (b_X12_take_195 o_31 x1 r17) _
                  unfold b_X12_take_195
                  refine T_qIn ⟨by omega, by omega⟩ ?_
                  refine T_qZ (Or.inr rfl) ?_
                  refine T_qNm (fun o3 e_o3 => ?_)
                  have hB_o3 : BoxM o3 := by rw [e_o3]; exact Box.s1 hB_o_31 (show 0 ≤ 1 ∧ 1 ≤ 1 from ⟨by omega, by omega⟩)
                  have fr_o3 : Fr [(0, 0), (0, 2), (0, 32), (1, 9999), (16, 9999), (21, 9999), (25, 9999), (26, 9999), (27, 9999), (29, 9999), (30, 9999), (32, 9999), (34, 9999)] o o3 := by rw [e_o3]; exact Fr.s1 fr_o_31 rfl
                  have g0_27_o3 : o3.1 0 27 = o_31.1 0 27 := by rw [e_o3]; rfl
                  have g0_32_o3 : o3.1 0 32 = o_31.1 0 32 := by rw [e_o3]; rfl
                  have g0_17_o3 : o3.1 0 17 = o_31.1 0 17 := by rw [e_o3]; rfl
                  refine T_qIn ⟨by omega, by omega⟩ ?_
                  refine T_qNm (fun n5 e_n5 => ?_)
                  have b_n5 : 0 ≤ n5 ∧ n5 ≤ 10000000 := by rw [e_n5]; exact bM_32 hB_o3 _
                  refine T_qB2 (t_X12_ask o3 n5 r17 hB_o3) (fun r6 o8 hc_r6 hp32 => ?_)
                  replace hp32 : BoxM o8 ∧ (Fr [(0, 2)] o3 o8) ∧ (r6 = r17) := hp32
                  obtain ⟨hB_o8, fc_o8, hp32⟩ := hp32
                  have fr_o8 : Fr [(0, 0), (0, 2), (0, 32), (1, 9999), (16, 9999), (21, 9999), (25, 9999), (26, 9999), (27, 9999), (29, 9999), (30, 9999), (32, 9999), (34, 9999)] o o8 := Fr.tr fr_o3 fc_o8 rfl
                  have g0_27_o8 : o8.1 0 27 = o3.1 0 27 := fc_o8.1 0 27 rfl
                  have g0_32_o8 : o8.1 0 32 = o3.1 0 32 := fc_o8.1 0 32 rfl
                  have g0_17_o8 : o8.1 0 17 = o3.1 0 17 := fc_o8.1 0 17 rfl
                  refine T_some ?_
                  show BoxM o8 ∧ (Fr [(0, 0), (0, 2), (0, 32), (1, 9999), (16, 9999), (21, 9999), (25, 9999), (26, 9999), (27, 9999), (29, 9999), (30, 9999), (32, 9999), (34, 9999)] o o8)
                  exact ⟨hB_o8, fr_o8⟩
            ·
              unfold b_X12_take_79
              refine T_some ?_
              show BoxM o ∧ (Fr [(0, 0), (0, 2), (0, 32), (1, 9999), (16, 9999), (21, 9999), (25, 9999), (26, 9999), (27, 9999), (29, 9999), (30, 9999), (32, 9999), (34, 9999)] o o)
              exact ⟨hB_o, fr_o⟩
set_option maxRecDepth 20000 in
set_option maxHeartbeats 4000000 in
theorem t_X12_tear (o : OO) (x1 : Int) (hB_o : BoxM o) (k0 : inR x1) : T (s_X12_tear o x1) (fun v => BoxM v.2 ∧ (Fr [(0, 0), (1, 9999), (2, 9999)] o v.2)) := by
  have fr_o : Fr [(0, 0), (1, 9999), (2, 9999)] o o := Fr.rf
  unfold s_X12_tear
  refine T_qB2 (t_X12_askedRow o x1 hB_o (by omega)) (fun r1 o3 hc_r1 hp1 => ?_)
  replace hp1 : BoxM o3 ∧ (Fr [(0, 0), (1, 9999)] o o3) ∧ (r1 = -1 ∨ r1 = -3 ∨ (r1 = 0 ∧ 0 ≤ x1 ∧ x1 ≤ 5 ∧ 0 ≤ o3.1 2 x1.toNat)) := hp1
  obtain ⟨hB_o3, fc_o3, hp1⟩ := hp1
  have fr_o3 : Fr [(0, 0), (1, 9999), (2, 9999)] o o3 := Fr.tr fr_o fc_o3 rfl
  refine T_qLt ⟨by omega, by omega⟩ ⟨by decide, by decide⟩ (fun h2 => ?_) (fun h2 => ?_)
  ·
    refine T_some ?_
    show BoxM o3 ∧ (Fr [(0, 0), (1, 9999), (2, 9999)] o o3)
    exact ⟨hB_o3, fr_o3⟩
  ·
    refine T_qIn ⟨by omega, by omega⟩ ?_
    refine T_qNm (fun o5 e_o5 => ?_)
    have hB_o5 : BoxM o5 := by rw [e_o5]; exact Box.s1 hB_o3 (show -9 ≤ (-9) ∧ (-9) ≤ 40 from ⟨by omega, by omega⟩)
    have fr_o5 : Fr [(0, 0), (1, 9999), (2, 9999)] o o5 := by rw [e_o5]; exact Fr.s1 fr_o3 rfl
    refine T_some ?_
    show BoxM o5 ∧ (Fr [(0, 0), (1, 9999), (2, 9999)] o o5)
    exact ⟨hB_o5, fr_o5⟩
set_option maxRecDepth 20000 in
set_option maxHeartbeats 4000000 in
theorem tl_X12_text_34 (x1 : Int) (x2 : Int) (i_o : OO) (i_x3 : Int) (hB_i_o : BoxM i_o) (k0 : inR x1) (k1 : inR x2) (k2 : 0 ≤ x1 ∧ x1 ≤ 3) (v0 : 0 ≤ i_x3 ∧ i_x3 ≤ 40) : T (loopW (fun s => l_X12_text_34 x1 x2 s.1 s.2) (i_o, i_x3)) (fun r => BoxM r ∧ (Fr [(6, 9999)] i_o r)) := by
  have fr_i_o : Fr [(6, 9999)] i_o i_o := Fr.rf
  refine T_loop (fun s => BoxM s.1 ∧ (Fr [(6, 9999)] i_o s.1) ∧ (0 ≤ s.2 ∧ s.2 ≤ 40)) (fun s => (40 - s.2).toNat) ⟨hB_i_o, fr_i_o, v0⟩ (fun s hs => ?_)
  obtain ⟨o, x3⟩ := s
  replace hs : BoxM o ∧ (Fr [(6, 9999)] i_o o) ∧ (0 ≤ x3 ∧ x3 ≤ 40) := hs
  obtain ⟨hB_o, fr_o, w0⟩ := hs
  show T (l_X12_text_34 x1 x2 o x3) _
  unfold l_X12_text_34
  refine T_qLt ⟨by omega, by omega⟩ ⟨by decide, by decide⟩ (fun h1 => ?_) (fun h1 => ?_)
  ·
    refine T_qIn ⟨by omega, by omega⟩ ?_
    refine T_qNm (fun o2 e_o2 => ?_)
    have hB_o2 : BoxM o2 := by rw [e_o2]; exact Box.s1 hB_o (show -128 ≤ 32 ∧ 32 ≤ 127 from ⟨by omega, by omega⟩)
    have fr_o2 : Fr [(6, 9999)] i_o o2 := by rw [e_o2]; exact Fr.s1 fr_o rfl
    refine T_some ?_
    show (BoxM o2 ∧ (Fr [(6, 9999)] i_o o2) ∧ (0 ≤ (x3 + 1) ∧ (x3 + 1) ≤ 40)) ∧ (40 - (x3 + 1)).toNat < (40 - x3).toNat
    exact ⟨⟨hB_o2, fr_o2, (by omega)⟩, by omega⟩
  ·
    refine T_some ?_
    show BoxM o ∧ (Fr [(6, 9999)] i_o o)
    exact ⟨hB_o, fr_o⟩
set_option maxRecDepth 20000 in
set_option maxHeartbeats 4000000 in
theorem t_X12_text (o : OO) (x1 : Int) (x2 : Int) (hB_o : BoxM o) (k0 : inR x1) (k1 : inR x2) : T (s_X12_text o x1 x2) (fun v => BoxM v.2 ∧ (Fr [(0, 0), (1, 9999), (5, 9999), (6, 9999)] o v.2)) := by
  have fr_o : Fr [(0, 0), (1, 9999), (5, 9999), (6, 9999)] o o := Fr.rf
  unfold s_X12_text
  refine T_qB (t_X12_isText x1 (by omega)) (fun r3 hc_r3 hp2 => ?_)
  replace hp2 : ((r3 = 1 ∧ 0 ≤ x1 ∧ x1 ≤ 3) ∨ (r3 = 0 ∧ (x1 < 0 ∨ 3 < x1))) := hp2
  refine T_qEq ⟨by omega, by omega⟩ ⟨by decide, by decide⟩ (fun h3 => ?_) (fun h3 => ?_)
  ·
    unfold b_X12_text_13
    refine T_some ?_
    show BoxM o ∧ (Fr [(0, 0), (1, 9999), (5, 9999), (6, 9999)] o o)
    exact ⟨hB_o, fr_o⟩
  ·
    refine T_qLt ⟨by decide, by decide⟩ ⟨by omega, by omega⟩ (fun h4 => ?_) (fun h4 => ?_)
    ·
      unfold b_X12_text_13
      refine T_some ?_
      show BoxM o ∧ (Fr [(0, 0), (1, 9999), (5, 9999), (6, 9999)] o o)
      exact ⟨hB_o, fr_o⟩
    ·
      refine T_qLt ⟨by omega, by omega⟩ ⟨by decide, by decide⟩ (fun h5 => ?_) (fun h5 => ?_)
      ·
        refine T_qB2 (t_X12_meets o 5 hB_o (by omega)) (fun r7 o9 hc_r7 hp6 => ?_)
        replace hp6 : BoxM o9 ∧ (Fr [(0, 0), (1, 9999)] o o9) ∧ (r7 = -3) := hp6
        obtain ⟨hB_o9, fc_o9, hp6⟩ := hp6
        have fr_o9 : Fr [(0, 0), (1, 9999), (5, 9999), (6, 9999)] o o9 := Fr.tr fr_o fc_o9 rfl
        refine T_some ?_
        show BoxM o9 ∧ (Fr [(0, 0), (1, 9999), (5, 9999), (6, 9999)] o o9)
        exact ⟨hB_o9, fr_o9⟩
      ·
        refine T_qIn ⟨by omega, by omega⟩ ?_
        refine T_qNm (fun o6 e_o6 => ?_)
        have hB_o6 : BoxM o6 := by rw [e_o6]; exact Box.s1 hB_o (show -9 ≤ x2 ∧ x2 ≤ 40 from ⟨by omega, by omega⟩)
        have fr_o6 : Fr [(0, 0), (1, 9999), (5, 9999), (6, 9999)] o o6 := by rw [e_o6]; exact Fr.s1 fr_o rfl
        unfold e_X12_text_34
        refine T_qB (tl_X12_text_34 x1 x2 o6 0 hB_o6 (by omega) (by omega) (by omega) (by omega)) (fun r7 hc_r7 hp8 => ?_)
        obtain ⟨o_9, q_o_9⟩ : ∃ q, q = r7 := ⟨_, rfl⟩
        subst q_o_9
        replace hp8 : BoxM o_9 ∧ (Fr [(6, 9999)] o6 o_9) := hp8
        have hps_hp8 := hp8
        obtain ⟨hp8_0, hp8_1⟩ := hps_hp8
        obtain ⟨hB_o_9, fc_o_9⟩ := hp8
        have fr_o_9 : Fr [(0, 0), (1, 9999), (5, 9999), (6, 9999)] o o_9 := Fr.tr fr_o6 fc_o_9 rfl
        show T (b_X12_text_59 o_9 x2) _
        unfold b_X12_text_59
        refine T_some ?_
        show BoxM o_9 ∧ (Fr [(0, 0), (1, 9999), (5, 9999), (6, 9999)] o o_9)
        exact ⟨hB_o_9, fr_o_9⟩
set_option maxRecDepth 20000 in
set_option maxHeartbeats 4000000 in
theorem t_X12_told (o : OO) (x1 : Int) (x2 : Int) (hB_o : BoxM o) (k0 : inR x1) (k1 : inR x2) : T (s_X12_told o x1 x2) (fun v => BoxM v.2 ∧ (Fr [(0, 2)] o v.2)) := by
  have fr_o : Fr [(0, 2)] o o := Fr.rf
  have g0_32_o := bM_0_32 hB_o
  unfold s_X12_told
  refine T_qB (t_X12_isMark o x1 hB_o (by omega)) (fun r1 hc_r1 hp1 => ?_)
  replace hp1 : ((r1 = 1 ∧ 0 ≤ x1 ∧ x1 < o.1 0 32) ∨ (r1 = 0 ∧ (x1 < 0 ∨ o.1 0 32 ≤ x1))) := hp1
  refine T_qEq ⟨by omega, by omega⟩ ⟨by decide, by decide⟩ (fun h2 => ?_) (fun h2 => ?_)
  ·
    unfold b_X12_told_31
    unfold b_X12_told_32
    refine T_some ?_
    show BoxM o ∧ (Fr [(0, 2)] o o)
    exact ⟨hB_o, fr_o⟩
  ·
    refine T_qB (t_X12_in x2 0 2 (by omega) (by omega) (by omega)) (fun r3 hc_r3 hp3 => ?_)
    replace hp3 : ((r3 = 1 ∧ 0 ≤ x2 ∧ x2 ≤ 2) ∨ (r3 = 0 ∧ (x2 < 0 ∨ 2 < x2))) := hp3
    refine T_qEq ⟨by omega, by omega⟩ ⟨by decide, by decide⟩ (fun h4 => ?_) (fun h4 => ?_)
    ·
      unfold b_X12_told_31
      unfold b_X12_told_32
      refine T_some ?_
      show BoxM o ∧ (Fr [(0, 2)] o o)
      exact ⟨hB_o, fr_o⟩
    ·
      refine T_qB (t_X12_markTells o x1 x2 hB_o (by omega) (by omega)) (fun r5 hc_r5 hp5 => ?_)
      replace hp5 : (inR r5) := hp5
      refine T_qB2 (t_X12_ask o r5 1 hB_o) (fun r7 o9 hc_r7 hp6 => ?_)
      replace hp6 : BoxM o9 ∧ (Fr [(0, 2)] o o9) ∧ (r7 = 1) := hp6
      obtain ⟨hB_o9, fc_o9, hp6⟩ := hp6
      have fr_o9 : Fr [(0, 2)] o o9 := Fr.tr fr_o fc_o9 rfl
      have g0_32_o9 : o9.1 0 32 = o.1 0 32 := fc_o9.1 0 32 rfl
      unfold b_X12_told_32
      refine T_some ?_
      show BoxM o9 ∧ (Fr [(0, 2)] o o9)
      exact ⟨hB_o9, fr_o9⟩
set_option maxRecDepth 20000 in
set_option maxHeartbeats 4000000 in
theorem t_X12_value (o : OO) (x1 : Int) (x2 : Int) (hB_o : BoxM o) (k0 : inR x1) (k1 : inR x2) : T (s_X12_value o x1 x2) (fun _ => True) := by
  have g0_17_o := bM_0_17 hB_o
  unfold s_X12_value
  refine T_qB (t_X12_isBuilding o x1 hB_o (by omega)) (fun r1 hc_r1 hp1 => ?_)
  replace hp1 : ((r1 = 1 ∧ 0 ≤ x1 ∧ x1 < o.1 0 17) ∨ (r1 = 0 ∧ (x1 < 0 ∨ o.1 0 17 ≤ x1))) := hp1
  refine T_qEq ⟨by omega, by omega⟩ ⟨by decide, by decide⟩ (fun h2 => ?_) (fun h2 => ?_)
  ·
    unfold b_X12_value_24
    unfold b_X12_value_25
    refine T_some ?_
    show True
    exact trivial
  ·
    refine T_qB (t_X12_isDay x2 (by omega)) (fun r3 hc_r3 hp3 => ?_)
    replace hp3 : ((r3 = 1 ∧ 0 ≤ x2 ∧ x2 ≤ 999) ∨ (r3 = 0 ∧ (x2 < 0 ∨ 999 < x2))) := hp3
    refine T_qEq ⟨by omega, by omega⟩ ⟨by decide, by decide⟩ (fun h4 => ?_) (fun h4 => ?_)
    ·
      unfold b_X12_value_24
      unfold b_X12_value_25
      refine T_some ?_
      show True
      exact trivial
    ·
      refine T_qB (t_X12_valueOf o x1 x2 hB_o (by omega) (by omega)) (fun r5 hc_r5 hp5 => ?_)
      replace hp5 : (-9 ≤ r5 ∧ r5 ≤ 100000) ∧ (r5 = -9 ∨ 0 ≤ r5) := hp5
      have hps_hp5 := hp5
      obtain ⟨hp5_0, hp5_1⟩ := hps_hp5
      replace hp5 := hid hp5
      unfold b_X12_value_25
      refine T_some ?_
      show True
      exact trivial
set_option maxRecDepth 20000 in
set_option maxHeartbeats 4000000 in
theorem t_X12_walk (o : OO) (x1 : Int) (x2 : Int) (hB_o : BoxM o) (k0 : 0 ≤ x1 ∧ x1 ≤ 39) (k1 : 0 ≤ x2 ∧ x2 ≤ 31) : T (s_X12_walk o x1 x2) (fun v => (0 ≤ v ∧ v ≤ 14)) := by
  unfold s_X12_walk
  refine T_qIn ⟨by omega, by omega⟩ ?_
  refine T_qNm (fun n2 e_n2 => ?_)
  have b_n2 : -9 ≤ n2 ∧ n2 ≤ 63 := by rw [e_n2]; exact bM_22 hB_o _
  refine T_qLt ⟨by omega, by omega⟩ ⟨by decide, by decide⟩ (fun h1 => ?_) (fun h1 => ?_)
  ·
    unfold b_X12_walk_28
    refine T_some ?_
    show (0 ≤ 0 ∧ 0 ≤ 14)
    exact (by omega)
  ·
    refine T_qIn ⟨by omega, by omega⟩ ?_
    refine T_qNm (fun n4 e_n4 => ?_)
    have b_n4 : -9 ≤ n4 ∧ n4 ≤ 63 := by rw [e_n4]; exact bM_22 hB_o _
    refine T_qIn ⟨by omega, by omega⟩ ?_
    refine T_qNm (fun n6 e_n6 => ?_)
    have b_n6 : 0 ≤ n6 ∧ n6 ≤ 63 := by rw [e_n6]; exact bM_13 hB_o _
    refine T_qB (t_X12_apart n4 n6 (by omega) (by omega)) (fun r7 hc_r7 hp2 => ?_)
    replace hp2 : (0 ≤ r7 ∧ r7 ≤ 14) := hp2
    unfold b_X12_walk_28
    refine T_some ?_
    show (0 ≤ r7 ∧ r7 ≤ 14)
    exact (by omega)
set_option maxRecDepth 20000 in
set_option maxHeartbeats 4000000 in
theorem t_X12_relax (o : OO) (x1 : Int) (x2 : Int) (x3 : Int) (x4 : Int) (hB_o : BoxM o) (k0 : 0 ≤ x1 ∧ x1 ≤ 31) (k1 : inR x2) (k2 : 0 ≤ x3 ∧ x3 ≤ 39) (k3 : -9 ≤ x4 ∧ x4 ≤ 31) : T (s_X12_relax o x1 x2 x3 x4) (fun v => BoxM v.2 ∧ (Fr [(49, 9999), (50, 9999), (51, 9999)] o v.2) ∧ (0 ≤ v.1 ∧ v.1 ≤ 1)) := by
  have fr_o : Fr [(49, 9999), (50, 9999), (51, 9999)] o o := Fr.rf
  unfold s_X12_relax
  refine T_qIn ⟨by omega, by omega⟩ ?_
  refine T_qNm (fun n2 e_n2 => ?_)
  have b_n2 : -40 ≤ n2 ∧ n2 ≤ 20 := by rw [e_n2]; exact bM_48 hB_o _
  refine T_qLt ⟨by omega, by omega⟩ ⟨by decide, by decide⟩ (fun h1 => ?_) (fun h1 => ?_)
  ·
    unfold b_X12_relax_19
    refine T_qZ (Or.inl rfl) ?_
    refine T_some ?_
    show BoxM o ∧ (Fr [(49, 9999), (50, 9999), (51, 9999)] o o) ∧ (0 ≤ 0 ∧ 0 ≤ 1)
    exact ⟨hB_o, fr_o, (by omega)⟩
  ·
    refine T_qIn ⟨by omega, by omega⟩ ?_
    refine T_qNm (fun n4 e_n4 => ?_)
    have b_n4 : -2147483648 ≤ n4 ∧ n4 ≤ 2147483647 := by rw [e_n4]; exact bM_49 hB_o _
    refine T_qLt ⟨by omega, by omega⟩ ⟨by omega, by omega⟩ (fun h2 => ?_) (fun h2 => ?_)
    ·
      refine T_qIn ⟨by omega, by omega⟩ ?_
      refine T_qNm (fun o6 e_o6 => ?_)
      have hB_o6 : BoxM o6 := by rw [e_o6]; exact Box.s1 hB_o (show -2147483648 ≤ x2 ∧ x2 ≤ 2147483647 from ⟨by omega, by omega⟩)
      have fr_o6 : Fr [(49, 9999), (50, 9999), (51, 9999)] o o6 := by rw [e_o6]; exact Fr.s1 fr_o rfl
      refine T_qIn ⟨by omega, by omega⟩ ?_
      refine T_qNm (fun o8 e_o8 => ?_)
      have hB_o8 : BoxM o8 := by rw [e_o8]; exact Box.s1 hB_o6 (show 0 ≤ x3 ∧ x3 ≤ 39 from ⟨by omega, by omega⟩)
      have fr_o8 : Fr [(49, 9999), (50, 9999), (51, 9999)] o o8 := by rw [e_o8]; exact Fr.s1 fr_o6 rfl
      refine T_qIn ⟨by omega, by omega⟩ ?_
      refine T_qNm (fun o10 e_o10 => ?_)
      have hB_o10 : BoxM o10 := by rw [e_o10]; exact Box.s1 hB_o8 (show -9 ≤ x4 ∧ x4 ≤ 31 from ⟨by omega, by omega⟩)
      have fr_o10 : Fr [(49, 9999), (50, 9999), (51, 9999)] o o10 := by rw [e_o10]; exact Fr.s1 fr_o8 rfl
      refine T_qZ (Or.inr rfl) ?_
      refine T_some ?_
      show BoxM o10 ∧ (Fr [(49, 9999), (50, 9999), (51, 9999)] o o10) ∧ (0 ≤ 1 ∧ 1 ≤ 1)
      exact ⟨hB_o10, fr_o10, (by omega)⟩
    ·
      unfold b_X12_relax_19
      refine T_qZ (Or.inl rfl) ?_
      refine T_some ?_
      show BoxM o ∧ (Fr [(49, 9999), (50, 9999), (51, 9999)] o o) ∧ (0 ≤ 0 ∧ 0 ≤ 1)
      exact ⟨hB_o, fr_o, (by omega)⟩
theorem t_X12_cheapest (o : OO) (hB_o : BoxM o) : T (s_X12_cheapest o) (fun v => BoxM v.2 ∧ (Fr [(49, 9999), (50, 9999), (51, 9999)] o v.2) ∧ (v.1 = -9 ∨ (0 ≤ v.1 ∧ v.1 < o.1 0 17))) := by sorry
theorem t_X12_whither (o : OO) (x1 : Int) (hB_o : BoxM o) (k0 : inR x1) : T (s_X12_whither o x1) (fun v => BoxM v.2 ∧ (Fr [(0, 0), (0, 2), (1, 9999), (46, 9999), (47, 9999), (48, 9999), (49, 9999), (50, 9999), (51, 9999)] o v.2)) := by sorry
set_option maxRecDepth 20000 in
set_option maxHeartbeats 4000000 in
theorem t_X12_who (o : OO) (x1 : Int) (x2 : Int) (hB_o : BoxM o) (k0 : inR x1) (k1 : inR x2) : T (s_X12_who o x1 x2) (fun v => BoxM v.2 ∧ (Fr [(0, 2)] o v.2)) := by
  have fr_o : Fr [(0, 2)] o o := Fr.rf
  have g0_27_o := bM_0_27 hB_o
  unfold s_X12_who
  refine T_qB (t_X12_isPerson o x1 hB_o (by omega)) (fun r1 hc_r1 hp1 => ?_)
  replace hp1 : ((r1 = 1 ∧ 0 ≤ x1 ∧ x1 < o.1 0 27) ∨ (r1 = 0 ∧ (x1 < 0 ∨ o.1 0 27 ≤ x1))) := hp1
  refine T_qEq ⟨by omega, by omega⟩ ⟨by decide, by decide⟩ (fun h2 => ?_) (fun h2 => ?_)
  ·
    unfold b_X12_who_31
    unfold b_X12_who_32
    refine T_some ?_
    show BoxM o ∧ (Fr [(0, 2)] o o)
    exact ⟨hB_o, fr_o⟩
  ·
    refine T_qB (t_X12_in x2 0 3 (by omega) (by omega) (by omega)) (fun r3 hc_r3 hp3 => ?_)
    replace hp3 : ((r3 = 1 ∧ 0 ≤ x2 ∧ x2 ≤ 3) ∨ (r3 = 0 ∧ (x2 < 0 ∨ 3 < x2))) := hp3
    refine T_qEq ⟨by omega, by omega⟩ ⟨by decide, by decide⟩ (fun h4 => ?_) (fun h4 => ?_)
    ·
      unfold b_X12_who_31
      unfold b_X12_who_32
      refine T_some ?_
      show BoxM o ∧ (Fr [(0, 2)] o o)
      exact ⟨hB_o, fr_o⟩
    ·
      refine T_qB (t_X12_personTells o x1 x2 hB_o (by omega) (by omega)) (fun r5 hc_r5 hp5 => ?_)
      replace hp5 : (inR r5) := hp5
      refine T_qB2 (t_X12_ask o r5 1 hB_o) (fun r7 o9 hc_r7 hp6 => ?_)
      replace hp6 : BoxM o9 ∧ (Fr [(0, 2)] o o9) ∧ (r7 = 1) := hp6
      obtain ⟨hB_o9, fc_o9, hp6⟩ := hp6
      have fr_o9 : Fr [(0, 2)] o o9 := Fr.tr fr_o fc_o9 rfl
      have g0_27_o9 : o9.1 0 27 = o.1 0 27 := fc_o9.1 0 27 rfl
      unfold b_X12_who_32
      refine T_some ?_
      show BoxM o9 ∧ (Fr [(0, 2)] o o9)
      exact ⟨hB_o9, fr_o9⟩
set_option maxRecDepth 20000 in
set_option maxHeartbeats 4000000 in
theorem t_X12_why (o : OO) (x1 : Int) (x2 : Int) (x3 : Int) (hB_o : BoxM o) (k0 : inR x1) (k1 : inR x2) (k2 : inR x3) : T (s_X12_why o x1 x2 x3) (fun _ => True) := by
  have g0_10_o := bM_0_10 hB_o
  unfold s_X12_why
  refine T_qB (t_X12_isAsked x1 x2 x3 (by omega) (by omega) (by omega)) (fun r1 hc_r1 hp1 => ?_)
  replace hp1 : ((r1 = 1 ∧ 0 ≤ x1 ∧ x1 ≤ 7) ∨ r1 = 0) := hp1
  refine T_qEq ⟨by omega, by omega⟩ ⟨by decide, by decide⟩ (fun h2 => ?_) (fun h2 => ?_)
  ·
    unfold b_X12_why_20
    refine T_some ?_
    show True
    exact trivial
  ·
    refine T_qB (t_X12_ruleFor o x1 x2 x3 hB_o (by omega) (by omega) (by omega)) (fun r3 hc_r3 hp3 => ?_)
    replace hp3 : ((r3 = -9 ∨ (0 ≤ r3 ∧ 0 ≤ o.1 9 (8 * r3 + x1).toNat)) ∧ r3 < o.1 0 10) := hp3
    unfold b_X12_why_20
    refine T_some ?_
    show True
    exact trivial
set_option maxRecDepth 20000 in
set_option maxHeartbeats 4000000 in
theorem t_X12_worth (o : OO) (x1 : Int) (x2 : Int) (hB_o : BoxM o) (k0 : inR x1) (k1 : inR x2) : T (s_X12_worth o x1 x2) (fun v => BoxM v.2 ∧ (Fr [(0, 23), (18, 9999), (19, 9999), (20, 9999)] o v.2) ∧ (inR v.1) ∧ (HT o → HT v.2)) := by
  have fr_o : Fr [(0, 23), (18, 9999), (19, 9999), (20, 9999)] o o := Fr.rf
  have g0_23_o := bM_0_23 hB_o
  have g0_4_o := bM_0_4 hB_o
  have g0_17_o := bM_0_17 hB_o
  unfold s_X12_worth
  refine T_qB (t_X12_isBuilding o x1 hB_o (by omega)) (fun r1 hc_r1 hp1 => ?_)
  replace hp1 : ((r1 = 1 ∧ 0 ≤ x1 ∧ x1 < o.1 0 17) ∨ (r1 = 0 ∧ (x1 < 0 ∨ o.1 0 17 ≤ x1))) := hp1
  refine T_qEq ⟨by omega, by omega⟩ ⟨by decide, by decide⟩ (fun h2 => ?_) (fun h2 => ?_)
  ·
    unfold b_X12_worth_15
    refine T_some ?_
    show BoxM o ∧ (Fr [(0, 23), (18, 9999), (19, 9999), (20, 9999)] o o) ∧ (inR (-1)) ∧ (HT o → HT o)
    exact ⟨hB_o, fr_o, (by omega), (by first | exact (fun h => h) | assumption | omega)⟩
  ·
    refine T_qB (t_X12_isWorth x2 (by omega)) (fun r3 hc_r3 hp3 => ?_)
    replace hp3 : ((r3 = 1 ∧ 1 ≤ x2 ∧ x2 ≤ 100000) ∨ (r3 = 0 ∧ (x2 < 1 ∨ 100000 < x2))) := hp3
    refine T_qEq ⟨by omega, by omega⟩ ⟨by decide, by decide⟩ (fun h4 => ?_) (fun h4 => ?_)
    ·
      unfold b_X12_worth_15
      refine T_some ?_
      show BoxM o ∧ (Fr [(0, 23), (18, 9999), (19, 9999), (20, 9999)] o o) ∧ (inR (-1)) ∧ (HT o → HT o)
      exact ⟨hB_o, fr_o, (by omega), (by first | exact (fun h => h) | assumption | omega)⟩
    ·
      refine T_qIn ⟨by omega, by omega⟩ ?_
      refine T_qNm (fun n6 e_n6 => ?_)
      have b_n6 : 0 ≤ n6 ∧ n6 ≤ 1 := by rw [e_n6]; exact bM_16 hB_o _
      refine T_qEq ⟨by omega, by omega⟩ ⟨by decide, by decide⟩ (fun h5 => ?_) (fun h5 => ?_)
      ·
        refine T_qEq ⟨by omega, by omega⟩ ⟨by decide, by decide⟩ (fun h6 => ?_) (fun h6 => ?_)
        ·
          refine T_some ?_
          show BoxM o ∧ (Fr [(0, 23), (18, 9999), (19, 9999), (20, 9999)] o o) ∧ (inR (-2)) ∧ (HT o → HT o)
          exact ⟨hB_o, fr_o, (by omega), (by first | exact (fun h => h) | assumption | omega)⟩
        ·
          refine T_qB (t_X12_valueOf o x1 (o.1 0 4) hB_o (by omega) (by omega)) (fun r7 hc_r7 hp7 => ?_)
          replace hp7 : (-9 ≤ r7 ∧ r7 ≤ 100000) ∧ (r7 = -9 ∨ 0 ≤ r7) := hp7
          have hps_hp7 := hp7
          obtain ⟨hp7_0, hp7_1⟩ := hps_hp7
          replace hp7 := hid hp7
          refine T_qB (t_X12_tell o x1 x2 hB_o (by omega) (by omega) (by omega)) (fun o11 hc_o11 hp8 => ?_)
          replace hp8 : BoxM o11 ∧ (Fr [(0, 23), (18, 9999), (19, 9999), (20, 9999)] o o11) ∧ (o11.1 0 23 = o.1 0 23 + 1) ∧ (HT o → HT o11) ∧ (o11.1 18 (o.1 0 23).toNat = x1) := hp8
          obtain ⟨hB_o11, fc_o11, hp8⟩ := hp8
          have fr_o11 : Fr [(0, 23), (18, 9999), (19, 9999), (20, 9999)] o o11 := Fr.tr fr_o fc_o11 rfl
          have g0_23_o11 := bM_0_23 hB_o11
          have g0_4_o11 : o11.1 0 4 = o.1 0 4 := fc_o11.1 0 4 rfl
          have g0_17_o11 : o11.1 0 17 = o.1 0 17 := fc_o11.1 0 17 rfl
          have ht11 : HT o → HT o11 := hp8.2.1
          refine T_some ?_
          show BoxM o11 ∧ (Fr [(0, 23), (18, 9999), (19, 9999), (20, 9999)] o o11) ∧ (inR r7) ∧ (HT o → HT o11)
          exact ⟨hB_o11, fr_o11, (by omega), (by first | exact (fun h => h) | assumption | omega)⟩
      ·
        refine T_some ?_
        show BoxM o ∧ (Fr [(0, 23), (18, 9999), (19, 9999), (20, 9999)] o o) ∧ (inR (-4)) ∧ (HT o → HT o)
        exact ⟨hB_o, fr_o, (by omega), (by first | exact (fun h => h) | assumption | omega)⟩
