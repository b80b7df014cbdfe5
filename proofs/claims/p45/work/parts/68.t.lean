set_option maxRecDepth 20000 in
set_option maxHeartbeats 4000000 in
theorem t_X12_shown (o : OO) (x1 : Int) (hB_o : BoxM o) (k0 : inR x1) : T (s_X12_shown o x1) (fun v => BoxM v.2 ∧ (Fr [(0, 0), (1, 9999)] o v.2)) := by
  have fr_o : Fr [(0, 0), (1, 9999)] o o := Fr.rf
  have g0_32_o := bM_0_32 hB_o
  unfold s_X12_shown
  refine T_qB2 (t_X12_askedLine o x1 hB_o (by omega)) (fun r1 o3 hc_r1 hp1 => ?_)
  replace hp1 : BoxM o3 ∧ (Fr [(0, 0), (1, 9999)] o o3) ∧ (r1 = -1 ∨ r1 = -3 ∨ (r1 = 0 ∧ 0 ≤ x1 ∧ x1 < o.1 0 32)) := hp1
  obtain ⟨hB_o3, fc_o3, hp1⟩ := hp1
  have fr_o3 : Fr [(0, 0), (1, 9999)] o o3 := Fr.tr fr_o fc_o3 rfl
  have g0_32_o3 : o3.1 0 32 = o.1 0 32 := fc_o3.1 0 32 rfl
  refine T_qLt ⟨by omega, by omega⟩ ⟨by decide, by decide⟩ (fun h2 => ?_) (fun h2 => ?_)
  ·
    unfold b_X12_shown_20
    refine T_some ?_
    show BoxM o3 ∧ (Fr [(0, 0), (1, 9999)] o o3)
    exact ⟨hB_o3, fr_o3⟩
  ·
    refine T_qIn ⟨by omega, by omega⟩ ?_
    refine T_qNm (fun n5 e_n5 => ?_)
    have b_n5 : -9 ≤ n5 ∧ n5 ≤ 999 := by rw [e_n5]; exact bM_29 hB_o3 _
    unfold b_X12_shown_20
    refine T_some ?_
    show BoxM o3 ∧ (Fr [(0, 0), (1, 9999)] o o3)
    exact ⟨hB_o3, fr_o3⟩
set_option maxRecDepth 20000 in
set_option maxHeartbeats 4000000 in
theorem tl_X12_comes_29 (o : OO) (x2 : Int) (x3 : Int) (x4 : Int) (x8 : Int) (i_z5 : Int64) (i_x7 : Int) (i_x9 : Int) (hB_o : BoxM o) (k0 : 0 ≤ x2 ∧ x2 ≤ 63) (k1 : inR x3) (k2 : 0 ≤ x4 ∧ x4 ≤ 1) (k3 : 0 ≤ x8 ∧ x8 ≤ 63) (v0 : 0 ≤ i_x7 ∧ i_x7 ≤ 1) (v1 : 0 ≤ i_x9 ∧ i_x9 ≤ 4) (v2 : (i_x7 = i_x7 ∧ CB i_z5 = CB i_z5) ∨ (i_x7 = 1 ∧ CB i_z5 < CB i_z5)) (v3 : ZG o x4 i_z5 i_z5) (v4 : (0 : Int) = i_x7 → (0 : Int) = i_x7 ∧ i_z5 = i_z5 ∧ CCW o x3 x4 i_z5 x8 i_x9) : T (loopW (fun s => l_X12_comes_29 o x2 x3 x4 x8 s.1 s.2.1 s.2.2) (i_z5, i_x7, i_x9)) (fun r => (0 ≤ r.2 ∧ r.2 ≤ 1) ∧ ((r.2 = i_x7 ∧ CB r.1 = CB i_z5) ∨ (r.2 = 1 ∧ CB r.1 < CB i_z5)) ∧ (ZG o x4 i_z5 r.1) ∧ ((0 : Int) = r.2 → (0 : Int) = i_x7 ∧ r.1 = i_z5 ∧ CCW o x3 x4 r.1 x8 4)) := by
  refine T_loop (fun s => (0 ≤ s.2.1 ∧ s.2.1 ≤ 1) ∧ (0 ≤ s.2.2 ∧ s.2.2 ≤ 4) ∧ ((s.2.1 = i_x7 ∧ CB s.1 = CB i_z5) ∨ (s.2.1 = 1 ∧ CB s.1 < CB i_z5)) ∧ (ZG o x4 i_z5 s.1) ∧ ((0 : Int) = s.2.1 → (0 : Int) = i_x7 ∧ s.1 = i_z5 ∧ CCW o x3 x4 s.1 x8 s.2.2)) (fun s => (4 - s.2.2).toNat) (by exact ⟨v0, v1, v2, v3, v4⟩) (fun s hs => ?_)
  obtain ⟨z5, x7, x9⟩ := s
  replace hs : (0 ≤ x7 ∧ x7 ≤ 1) ∧ (0 ≤ x9 ∧ x9 ≤ 4) ∧ ((x7 = i_x7 ∧ CB z5 = CB i_z5) ∨ (x7 = 1 ∧ CB z5 < CB i_z5)) ∧ (ZG o x4 i_z5 z5) ∧ ((0 : Int) = x7 → (0 : Int) = i_x7 ∧ z5 = i_z5 ∧ CCW o x3 x4 z5 x8 x9) := hs
  obtain ⟨w0, w1, w2, w3, w4⟩ := hs
  show T (l_X12_comes_29 o x2 x3 x4 x8 z5 x7 x9) _
  unfold l_X12_comes_29
  refine T_qLt ⟨by omega, by omega⟩ ⟨by decide, by decide⟩ (fun h1 => ?_) (fun h1 => ?_)
  ·
    refine T_qB (t_X12_beside x8 x9 (by omega) (by omega)) (fun r4 hc_r4 hp2 => ?_)
    replace hp2 : (r4 = -9 ∨ (0 ≤ r4 ∧ r4 ≤ 63 ∧ (x9 = 0 ∧ r4 = x8 - 8 ∨ x9 = 1 ∧ r4 = x8 - 1 ∨ x9 = 2 ∧ r4 = x8 + 1 ∨ x9 = 3 ∧ r4 = x8 + 8))) ∧ (r4 = bsd x8 x9) := hp2
    have hps_hp2 := hp2
    obtain ⟨hp2_0, hp2_1⟩ := hps_hp2
    replace hp2 := hid hp2
    have hq4 := hp2_1
    refine T_qB (t_X12_has z5 x8 (by omega)) (fun r6 hc_r6 hp3 => ?_)
    replace hp3 : ((r6 = 1 ∧ bt z5 x8.toNat = true) ∨ (r6 = 0 ∧ bt z5 x8.toNat = false)) := hp3
    have hb_r6 : r6 = 0 → bt z5 x8.toNat = false := fun e => hp3.elim (fun q => absurd (q.1.symm.trans e) (by decide)) (fun q => q.2)
    have cc6 : r6 = 0 → CCt o x3 x4 z5 x8 x9 := fun e q => by rw [hb_r6 e] at q; cases q
    have hb_r6 := fun e : r6 = 0 => Or.elim hp3 (fun q => absurd (q.1.symm.trans e) (by decide)) (fun q => q.2)
    refine T_qEq ⟨by omega, by omega⟩ ⟨by decide, by decide⟩ (fun h4 => ?_) (fun h4 => ?_)
    ·
      unfold b_X12_comes_103
      refine T_some ?_
      show ((0 ≤ x7 ∧ x7 ≤ 1) ∧ (0 ≤ (x9 + 1) ∧ (x9 + 1) ≤ 4) ∧ ((x7 = i_x7 ∧ CB z5 = CB i_z5) ∨ (x7 = 1 ∧ CB z5 < CB i_z5)) ∧ (ZG o x4 i_z5 z5) ∧ ((0 : Int) = x7 → (0 : Int) = i_x7 ∧ z5 = i_z5 ∧ CCW o x3 x4 z5 x8 (x9 + 1))) ∧ (4 - (x9 + 1)).toNat < (4 - x9).toNat
      exact ⟨⟨(by omega), (by omega), (by omega), (by first | assumption | exact ZG_rf | exact ZG_tr w1 zg9 | exact ZG_tr w3 zg9 | (rw [e_m3]; exact ZG_or w3 (by omega) (by omega) (by omega))), (by first | assumption | exact (fun e => absurd e (by decide)) | exact (fun e => ⟨e, rfl, CCW_0⟩) | exact (fun e => ⟨(w4 e).1, (w4 e).2.1, CCW_s (w4 e).2.2 (cc6 (by omega))⟩) | exact (fun e => ⟨(w4 e).1, (w4 e).2.1, CCW_s (w4 e).2.2 (cc8 (by omega))⟩) | exact (fun e => ⟨(w4 e).1, (w4 e).2.1, CCW_s (w4 e).2.2 (cc10 (by omega))⟩) | exact (fun e => ⟨(w4 e).1, (w4 e).2.1, CCW_s (w4 e).2.2 (cc13 (by omega) (by omega))⟩) | (intro e; have q9 := w4 e; rwa [show x9 = 4 by omega] at q9))⟩, by omega⟩
    ·
      refine T_qB (t_X12_leads o x8 r4 x3 hB_o (by omega) (by omega) (by omega)) (fun r8 hc_r8 hp5 => ?_)
      replace hp5 : ((r8 = 1 ∧ 0 ≤ r4) ∨ r8 = 0) := hp5
      have cc8 : r8 = 0 → CCt o x3 x4 z5 x8 x9 := fun e _ q => by obtain ⟨v, q1, q2⟩ := q; rw [← hq4, hc_r8] at q1; have := Option.some.inj q1; omega
      refine T_qEq ⟨by omega, by omega⟩ ⟨by decide, by decide⟩ (fun h6 => ?_) (fun h6 => ?_)
      ·
        unfold b_X12_comes_103
        refine T_some ?_
        show ((0 ≤ x7 ∧ x7 ≤ 1) ∧ (0 ≤ (x9 + 1) ∧ (x9 + 1) ≤ 4) ∧ ((x7 = i_x7 ∧ CB z5 = CB i_z5) ∨ (x7 = 1 ∧ CB z5 < CB i_z5)) ∧ (ZG o x4 i_z5 z5) ∧ ((0 : Int) = x7 → (0 : Int) = i_x7 ∧ z5 = i_z5 ∧ CCW o x3 x4 z5 x8 (x9 + 1))) ∧ (4 - (x9 + 1)).toNat < (4 - x9).toNat
        exact ⟨⟨(by omega), (by omega), (by omega), (by first | assumption | exact ZG_rf | exact ZG_tr w1 zg9 | exact ZG_tr w3 zg9 | (rw [e_m3]; exact ZG_or w3 (by omega) (by omega) (by omega))), (by first | assumption | exact (fun e => absurd e (by decide)) | exact (fun e => ⟨e, rfl, CCW_0⟩) | exact (fun e => ⟨(w4 e).1, (w4 e).2.1, CCW_s (w4 e).2.2 (cc6 (by omega))⟩) | exact (fun e => ⟨(w4 e).1, (w4 e).2.1, CCW_s (w4 e).2.2 (cc8 (by omega))⟩) | exact (fun e => ⟨(w4 e).1, (w4 e).2.1, CCW_s (w4 e).2.2 (cc10 (by omega))⟩) | exact (fun e => ⟨(w4 e).1, (w4 e).2.1, CCW_s (w4 e).2.2 (cc13 (by omega) (by omega))⟩) | (intro e; have q9 := w4 e; rwa [show x9 = 4 by omega] at q9))⟩, by omega⟩
      ·
        refine T_qB (t_X12_has z5 r4 (by omega)) (fun r10 hc_r10 hp7 => ?_)
        replace hp7 : ((r10 = 1 ∧ bt z5 r4.toNat = true) ∨ (r10 = 0 ∧ bt z5 r4.toNat = false)) := hp7
        have cc10 : ¬ r10 = 0 → CCt o x3 x4 z5 x8 x9 := fun e _ _ _ => by rw [← hq4]; exact hp7.elim (fun q => q.2) (fun q => absurd q.1 e)
        have hb_r10 := fun e : r10 = 0 => Or.elim hp7 (fun q => absurd (q.1.symm.trans e) (by decide)) (fun q => q.2)
        refine T_qEq ⟨by omega, by omega⟩ ⟨by decide, by decide⟩ (fun h8 => ?_) (fun h8 => ?_)
        ·
          refine T_qEq ⟨by omega, by omega⟩ ⟨by decide, by decide⟩ (fun h9 => ?_) (fun h9 => ?_)
          ·
            refine T_qIn ⟨by omega, by omega⟩ ?_
            refine T_qNm (fun n13 e_n13 => ?_)
            have b_n13 : 0 ≤ n13 ∧ n13 ≤ 1 := by rw [e_n13]; exact bM_58 hB_o _
            have cc13 : x4 = 0 → ¬ n13 = 0 → CCt o x3 x4 z5 x8 x9 := fun e e2 _ _ q => by rw [← hq4, ← e_n13] at q; omega
            refine T_qEq ⟨by omega, by omega⟩ ⟨by decide, by decide⟩ (fun h10 => ?_) (fun h10 => ?_)
            ·
              unfold b_X12_comes_91
              refine T_qNm (fun m3 e_m3 => ?_)
              have cb9 : CB m3 = CB z5 - 1 := by rw [e_m3]; exact CB_or (by omega) (by omega) (hb_r10 (by omega))
              unfold b_X12_comes_103
              refine T_some ?_
              show ((0 ≤ 1 ∧ 1 ≤ 1) ∧ (0 ≤ (x9 + 1) ∧ (x9 + 1) ≤ 4) ∧ ((1 = i_x7 ∧ CB m3 = CB i_z5) ∨ (1 = 1 ∧ CB m3 < CB i_z5)) ∧ (ZG o x4 i_z5 m3) ∧ ((0 : Int) = 1 → (0 : Int) = i_x7 ∧ m3 = i_z5 ∧ CCW o x3 x4 m3 x8 (x9 + 1))) ∧ (4 - (x9 + 1)).toNat < (4 - x9).toNat
              exact ⟨⟨(by omega), (by omega), (by omega), (by first | assumption | exact ZG_rf | exact ZG_tr w1 zg9 | exact ZG_tr w3 zg9 | (rw [e_m3]; exact ZG_or w3 (by omega) (by omega) (by omega))), (by first | assumption | exact (fun e => absurd e (by decide)) | exact (fun e => ⟨e, rfl, CCW_0⟩) | exact (fun e => ⟨(w4 e).1, (w4 e).2.1, CCW_s (w4 e).2.2 (cc6 (by omega))⟩) | exact (fun e => ⟨(w4 e).1, (w4 e).2.1, CCW_s (w4 e).2.2 (cc8 (by omega))⟩) | exact (fun e => ⟨(w4 e).1, (w4 e).2.1, CCW_s (w4 e).2.2 (cc10 (by omega))⟩) | exact (fun e => ⟨(w4 e).1, (w4 e).2.1, CCW_s (w4 e).2.2 (cc13 (by omega) (by omega))⟩) | (intro e; have q9 := w4 e; rwa [show x9 = 4 by omega] at q9))⟩, by omega⟩
            ·
              unfold b_X12_comes_103
              refine T_some ?_
              show ((0 ≤ x7 ∧ x7 ≤ 1) ∧ (0 ≤ (x9 + 1) ∧ (x9 + 1) ≤ 4) ∧ ((x7 = i_x7 ∧ CB z5 = CB i_z5) ∨ (x7 = 1 ∧ CB z5 < CB i_z5)) ∧ (ZG o x4 i_z5 z5) ∧ ((0 : Int) = x7 → (0 : Int) = i_x7 ∧ z5 = i_z5 ∧ CCW o x3 x4 z5 x8 (x9 + 1))) ∧ (4 - (x9 + 1)).toNat < (4 - x9).toNat
              exact ⟨⟨(by omega), (by omega), (by omega), (by first | assumption | exact ZG_rf | exact ZG_tr w1 zg9 | exact ZG_tr w3 zg9 | (rw [e_m3]; exact ZG_or w3 (by omega) (by omega) (by omega))), (by first | assumption | exact (fun e => absurd e (by decide)) | exact (fun e => ⟨e, rfl, CCW_0⟩) | exact (fun e => ⟨(w4 e).1, (w4 e).2.1, CCW_s (w4 e).2.2 (cc6 (by omega))⟩) | exact (fun e => ⟨(w4 e).1, (w4 e).2.1, CCW_s (w4 e).2.2 (cc8 (by omega))⟩) | exact (fun e => ⟨(w4 e).1, (w4 e).2.1, CCW_s (w4 e).2.2 (cc10 (by omega))⟩) | exact (fun e => ⟨(w4 e).1, (w4 e).2.1, CCW_s (w4 e).2.2 (cc13 (by omega) (by omega))⟩) | (intro e; have q9 := w4 e; rwa [show x9 = 4 by omega] at q9))⟩, by omega⟩
          ·
            unfold b_X12_comes_91
            refine T_qNm (fun m3 e_m3 => ?_)
            have cb9 : CB m3 = CB z5 - 1 := by rw [e_m3]; exact CB_or (by omega) (by omega) (hb_r10 (by omega))
            unfold b_X12_comes_103
            refine T_some ?_
            show ((0 ≤ 1 ∧ 1 ≤ 1) ∧ (0 ≤ (x9 + 1) ∧ (x9 + 1) ≤ 4) ∧ ((1 = i_x7 ∧ CB m3 = CB i_z5) ∨ (1 = 1 ∧ CB m3 < CB i_z5)) ∧ (ZG o x4 i_z5 m3) ∧ ((0 : Int) = 1 → (0 : Int) = i_x7 ∧ m3 = i_z5 ∧ CCW o x3 x4 m3 x8 (x9 + 1))) ∧ (4 - (x9 + 1)).toNat < (4 - x9).toNat
            exact ⟨⟨(by omega), (by omega), (by omega), (by first | assumption | exact ZG_rf | exact ZG_tr w1 zg9 | exact ZG_tr w3 zg9 | (rw [e_m3]; exact ZG_or w3 (by omega) (by omega) (by omega))), (by first | assumption | exact (fun e => absurd e (by decide)) | exact (fun e => ⟨e, rfl, CCW_0⟩) | exact (fun e => ⟨(w4 e).1, (w4 e).2.1, CCW_s (w4 e).2.2 (cc6 (by omega))⟩) | exact (fun e => ⟨(w4 e).1, (w4 e).2.1, CCW_s (w4 e).2.2 (cc8 (by omega))⟩) | exact (fun e => ⟨(w4 e).1, (w4 e).2.1, CCW_s (w4 e).2.2 (cc10 (by omega))⟩) | exact (fun e => ⟨(w4 e).1, (w4 e).2.1, CCW_s (w4 e).2.2 (cc13 (by omega) (by omega))⟩) | (intro e; have q9 := w4 e; rwa [show x9 = 4 by omega] at q9))⟩, by omega⟩
        ·
          unfold b_X12_comes_103
          refine T_some ?_
          show ((0 ≤ x7 ∧ x7 ≤ 1) ∧ (0 ≤ (x9 + 1) ∧ (x9 + 1) ≤ 4) ∧ ((x7 = i_x7 ∧ CB z5 = CB i_z5) ∨ (x7 = 1 ∧ CB z5 < CB i_z5)) ∧ (ZG o x4 i_z5 z5) ∧ ((0 : Int) = x7 → (0 : Int) = i_x7 ∧ z5 = i_z5 ∧ CCW o x3 x4 z5 x8 (x9 + 1))) ∧ (4 - (x9 + 1)).toNat < (4 - x9).toNat
          exact ⟨⟨(by omega), (by omega), (by omega), (by first | assumption | exact ZG_rf | exact ZG_tr w1 zg9 | exact ZG_tr w3 zg9 | (rw [e_m3]; exact ZG_or w3 (by omega) (by omega) (by omega))), (by first | assumption | exact (fun e => absurd e (by decide)) | exact (fun e => ⟨e, rfl, CCW_0⟩) | exact (fun e => ⟨(w4 e).1, (w4 e).2.1, CCW_s (w4 e).2.2 (cc6 (by omega))⟩) | exact (fun e => ⟨(w4 e).1, (w4 e).2.1, CCW_s (w4 e).2.2 (cc8 (by omega))⟩) | exact (fun e => ⟨(w4 e).1, (w4 e).2.1, CCW_s (w4 e).2.2 (cc10 (by omega))⟩) | exact (fun e => ⟨(w4 e).1, (w4 e).2.1, CCW_s (w4 e).2.2 (cc13 (by omega) (by omega))⟩) | (intro e; have q9 := w4 e; rwa [show x9 = 4 by omega] at q9))⟩, by omega⟩
  ·
    refine T_some ?_
    show (0 ≤ x7 ∧ x7 ≤ 1) ∧ ((x7 = i_x7 ∧ CB z5 = CB i_z5) ∨ (x7 = 1 ∧ CB z5 < CB i_z5)) ∧ (ZG o x4 i_z5 z5) ∧ ((0 : Int) = x7 → (0 : Int) = i_x7 ∧ z5 = i_z5 ∧ CCW o x3 x4 z5 x8 4)
    exact ⟨(by omega), (by omega), (by first | assumption | exact ZG_rf | exact ZG_tr w1 zg9 | exact ZG_tr w3 zg9 | (rw [e_m3]; exact ZG_or w3 (by omega) (by omega) (by omega))), (by first | assumption | exact (fun e => absurd e (by decide)) | exact (fun e => ⟨e, rfl, CCW_0⟩) | exact (fun e => ⟨(w4 e).1, (w4 e).2.1, CCW_s (w4 e).2.2 (cc6 (by omega))⟩) | exact (fun e => ⟨(w4 e).1, (w4 e).2.1, CCW_s (w4 e).2.2 (cc8 (by omega))⟩) | exact (fun e => ⟨(w4 e).1, (w4 e).2.1, CCW_s (w4 e).2.2 (cc10 (by omega))⟩) | exact (fun e => ⟨(w4 e).1, (w4 e).2.1, CCW_s (w4 e).2.2 (cc13 (by omega) (by omega))⟩) | (intro e; have q9 := w4 e; rwa [show x9 = 4 by omega] at q9))⟩
set_option maxRecDepth 20000 in
set_option maxHeartbeats 4000000 in
theorem tl_X12_comes_19 (o : OO) (x2 : Int) (x3 : Int) (x4 : Int) (i_z5 : Int64) (i_x7 : Int) (i_x8 : Int) (hB_o : BoxM o) (k0 : 0 ≤ x2 ∧ x2 ≤ 63) (k1 : inR x3) (k2 : 0 ≤ x4 ∧ x4 ≤ 1) (v0 : 0 ≤ i_x7 ∧ i_x7 ≤ 1) (v1 : 0 ≤ i_x8 ∧ i_x8 ≤ 64) (v2 : (i_x7 = i_x7 ∧ CB i_z5 = CB i_z5) ∨ (i_x7 = 1 ∧ CB i_z5 < CB i_z5)) (v3 : ZG o x4 i_z5 i_z5) (v4 : (0 : Int) = i_x7 → CCC o x3 x4 i_z5 i_x8) : T (loopW (fun s => l_X12_comes_19 o x2 x3 x4 s.1 s.2.1 s.2.2) (i_z5, i_x7, i_x8)) (fun r => (0 ≤ r.2 ∧ r.2 ≤ 1) ∧ ((r.2 = i_x7 ∧ CB r.1 = CB i_z5) ∨ (r.2 = 1 ∧ CB r.1 < CB i_z5)) ∧ (ZG o x4 i_z5 r.1) ∧ ((0 : Int) = r.2 → CCC o x3 x4 r.1 64)) := by
  refine T_loop (fun s => (0 ≤ s.2.1 ∧ s.2.1 ≤ 1) ∧ (0 ≤ s.2.2 ∧ s.2.2 ≤ 64) ∧ ((s.2.1 = i_x7 ∧ CB s.1 = CB i_z5) ∨ (s.2.1 = 1 ∧ CB s.1 < CB i_z5)) ∧ (ZG o x4 i_z5 s.1) ∧ ((0 : Int) = s.2.1 → CCC o x3 x4 s.1 s.2.2)) (fun s => (64 - s.2.2).toNat) (by exact ⟨v0, v1, v2, v3, v4⟩) (fun s hs => ?_)
  obtain ⟨z5, x7, x8⟩ := s
  replace hs : (0 ≤ x7 ∧ x7 ≤ 1) ∧ (0 ≤ x8 ∧ x8 ≤ 64) ∧ ((x7 = i_x7 ∧ CB z5 = CB i_z5) ∨ (x7 = 1 ∧ CB z5 < CB i_z5)) ∧ (ZG o x4 i_z5 z5) ∧ ((0 : Int) = x7 → CCC o x3 x4 z5 x8) := hs
  obtain ⟨w0, w1, w2, w3, w4⟩ := hs
  show T (l_X12_comes_19 o x2 x3 x4 z5 x7 x8) _
  unfold l_X12_comes_19
  refine T_qLt ⟨by omega, by omega⟩ ⟨by decide, by decide⟩ (fun h11 => ?_) (fun h11 => ?_)
  ·
    unfold e_X12_comes_29
    refine T_qB (tl_X12_comes_29 o x2 x3 x4 x8 z5 x7 0 hB_o (by omega) (by omega) (by omega) (by omega) (by omega) (by omega) (by omega) (by first | assumption | exact ZG_rf | exact ZG_tr w1 zg9 | exact ZG_tr w3 zg9 | (rw [e_m3]; exact ZG_or w3 (by omega) (by omega) (by omega))) (by first | assumption | exact (fun e => absurd e (by decide)) | exact (fun e => ⟨e, rfl, CCW_0⟩) | exact (fun e => ⟨(w4 e).1, (w4 e).2.1, CCW_s (w4 e).2.2 (cc6 (by omega))⟩) | exact (fun e => ⟨(w4 e).1, (w4 e).2.1, CCW_s (w4 e).2.2 (cc8 (by omega))⟩) | exact (fun e => ⟨(w4 e).1, (w4 e).2.1, CCW_s (w4 e).2.2 (cc10 (by omega))⟩) | exact (fun e => ⟨(w4 e).1, (w4 e).2.1, CCW_s (w4 e).2.2 (cc13 (by omega) (by omega))⟩) | (intro e; have q9 := w4 e; rwa [show x9 = 4 by omega] at q9))) (fun r12 hc_r12 hp13 => ?_)
    obtain ⟨z5_14, x7_15⟩ := r12
    replace hp13 : (0 ≤ x7_15 ∧ x7_15 ≤ 1) ∧ ((x7_15 = x7 ∧ CB z5_14 = CB z5) ∨ (x7_15 = 1 ∧ CB z5_14 < CB z5)) ∧ (ZG o x4 z5 z5_14) ∧ ((0 : Int) = x7_15 → (0 : Int) = x7 ∧ z5_14 = z5 ∧ CCW o x3 x4 z5_14 x8 4) := hp13
    have hps_hp13 := hp13
    obtain ⟨hp13_0, hp13_1, hp13_2, hp13_3⟩ := hps_hp13
    replace hp13 := hid hp13
    show T (b_X12_comes_109 o x2 x3 x4 z5_14 x7_15 x8) _
    have zm9 : (0 : Int) = x7_15 → (0 : Int) = x7 ∧ z5_14 = z5 ∧ CCW o x3 x4 z5_14 x8 4 := by assumption
    have zg9 : ZG o x4 z5 z5_14 := by assumption
    unfold b_X12_comes_109
    refine T_some ?_
    show ((0 ≤ x7_15 ∧ x7_15 ≤ 1) ∧ (0 ≤ (x8 + 1) ∧ (x8 + 1) ≤ 64) ∧ ((x7_15 = i_x7 ∧ CB z5_14 = CB i_z5) ∨ (x7_15 = 1 ∧ CB z5_14 < CB i_z5)) ∧ (ZG o x4 i_z5 z5_14) ∧ ((0 : Int) = x7_15 → CCC o x3 x4 z5_14 (x8 + 1))) ∧ (64 - (x8 + 1)).toNat < (64 - x8).toNat
    exact ⟨⟨(by omega), (by omega), (by omega), (by first | assumption | exact ZG_rf | exact ZG_tr w1 zg9 | exact ZG_tr w3 zg9 | (rw [e_m3]; exact ZG_or w3 (by omega) (by omega) (by omega))), (by first | assumption | exact (fun e => absurd e (by decide)) | exact (fun _ => CCC_0) | exact (fun e => CCC_s (zm9 e).2.1 (w4 (zm9 e).1) (zm9 e).2.2) | (intro e; have q9 := w4 e; rwa [show x8 = 64 by omega] at q9))⟩, by omega⟩
  ·
    refine T_some ?_
    show (0 ≤ x7 ∧ x7 ≤ 1) ∧ ((x7 = i_x7 ∧ CB z5 = CB i_z5) ∨ (x7 = 1 ∧ CB z5 < CB i_z5)) ∧ (ZG o x4 i_z5 z5) ∧ ((0 : Int) = x7 → CCC o x3 x4 z5 64)
    exact ⟨(by omega), (by omega), (by first | assumption | exact ZG_rf | exact ZG_tr w1 zg9 | exact ZG_tr w3 zg9 | (rw [e_m3]; exact ZG_or w3 (by omega) (by omega) (by omega))), (by first | assumption | exact (fun e => absurd e (by decide)) | exact (fun _ => CCC_0) | exact (fun e => CCC_s (zm9 e).2.1 (w4 (zm9 e).1) (zm9 e).2.2) | (intro e; have q9 := w4 e; rwa [show x8 = 64 by omega] at q9))⟩
set_option maxRecDepth 20000 in
set_option maxHeartbeats 4000000 in
theorem tl_X12_comes_8 (o : OO) (x2 : Int) (x3 : Int) (x4 : Int) (i_z5 : Int64) (i_x7 : Int) (hB_o : BoxM o) (k0 : 0 ≤ x2 ∧ x2 ≤ 63) (k1 : inR x3) (k2 : 0 ≤ x4 ∧ x4 ≤ 1) (v0 : 0 ≤ i_x7 ∧ i_x7 ≤ 1) (v1 : ZG o x4 i_z5 i_z5) (v2 : (0 : Int) = i_x7 → CCC o x3 x4 i_z5 64) : T (loopW (fun s => l_X12_comes_8 o x2 x3 x4 s.1 s.2) (i_z5, i_x7)) (fun r => (ZG o x4 i_z5 r) ∧ (CCC o x3 x4 r 64)) := by
  refine T_loop (fun s => (0 ≤ s.2 ∧ s.2 ≤ 1) ∧ (ZG o x4 i_z5 s.1) ∧ ((0 : Int) = s.2 → CCC o x3 x4 s.1 64)) (fun s => (CB s.1).toNat + s.2.toNat) (by exact ⟨v0, v1, v2⟩) (fun s hs => ?_)
  obtain ⟨z5, x7⟩ := s
  replace hs : (0 ≤ x7 ∧ x7 ≤ 1) ∧ (ZG o x4 i_z5 z5) ∧ ((0 : Int) = x7 → CCC o x3 x4 z5 64) := hs
  obtain ⟨w0, w1, w2⟩ := hs
  have cbn := CB_nn z5
  show T (l_X12_comes_8 o x2 x3 x4 z5 x7) _
  unfold l_X12_comes_8
  refine T_qEq ⟨by omega, by omega⟩ ⟨by decide, by decide⟩ (fun h16 => ?_) (fun h16 => ?_)
  ·
    refine T_some ?_
    show (ZG o x4 i_z5 z5) ∧ (CCC o x3 x4 z5 64)
    exact ⟨(by first | assumption | exact ZG_rf | exact ZG_tr w1 zg9 | exact ZG_tr w3 zg9 | (rw [e_m3]; exact ZG_or w3 (by omega) (by omega) (by omega))), (w2 (by omega))⟩
  ·
    unfold e_X12_comes_19
    refine T_qB (tl_X12_comes_19 o x2 x3 x4 z5 0 0 hB_o (by omega) (by omega) (by omega) (by omega) (by omega) (by omega) (by first | assumption | exact ZG_rf | exact ZG_tr w1 zg9 | exact ZG_tr w3 zg9 | (rw [e_m3]; exact ZG_or w3 (by omega) (by omega) (by omega))) (by first | assumption | exact (fun e => absurd e (by decide)) | exact (fun _ => CCC_0) | exact (fun e => CCC_s (zm9 e).2.1 (w4 (zm9 e).1) (zm9 e).2.2) | (intro e; have q9 := w4 e; rwa [show x8 = 64 by omega] at q9))) (fun r17 hc_r17 hp18 => ?_)
    obtain ⟨z5_19, x7_20⟩ := r17
    replace hp18 : (0 ≤ x7_20 ∧ x7_20 ≤ 1) ∧ ((x7_20 = 0 ∧ CB z5_19 = CB z5) ∨ (x7_20 = 1 ∧ CB z5_19 < CB z5)) ∧ (ZG o x4 z5 z5_19) ∧ ((0 : Int) = x7_20 → CCC o x3 x4 z5_19 64) := hp18
    have hps_hp18 := hp18
    obtain ⟨hp18_0, hp18_1, hp18_2, hp18_3⟩ := hps_hp18
    replace hp18 := hid hp18
    show T (b_X12_comes_115 o x2 x3 x4 z5_19 x7_20) _
    have cbm := CB_nn z5_19
    have zg9 : ZG o x4 z5 z5_19 := by assumption
    unfold b_X12_comes_115
    refine T_some ?_
    show ((0 ≤ x7_20 ∧ x7_20 ≤ 1) ∧ (ZG o x4 i_z5 z5_19) ∧ ((0 : Int) = x7_20 → CCC o x3 x4 z5_19 64)) ∧ (CB z5_19).toNat + x7_20.toNat < (CB z5).toNat + x7.toNat
    exact ⟨⟨(by omega), (by first | assumption | exact ZG_rf | exact ZG_tr w1 zg9 | exact ZG_tr w3 zg9 | (rw [e_m3]; exact ZG_or w3 (by omega) (by omega) (by omega))), (by first | assumption | exact (fun e => absurd e (by decide)) | exact (fun _ => CCC_0) | exact (fun e => CCC_s (zm9 e).2.1 (w4 (zm9 e).1) (zm9 e).2.2) | (intro e; have q9 := w4 e; rwa [show x8 = 64 by omega] at q9))⟩, by omega⟩
set_option maxRecDepth 20000 in
set_option maxHeartbeats 4000000 in
theorem t_X12_comes (o : OO) (x1 : Int) (x2 : Int) (x3 : Int) (x4 : Int) (hB_o : BoxM o) (k0 : 0 ≤ x1 ∧ x1 ≤ 63) (k1 : 0 ≤ x2 ∧ x2 ≤ 63) (k2 : inR x3) (k3 : 0 ≤ x4 ∧ x4 ≤ 1) : T (s_X12_comes o x1 x2 x3 x4) (fun v => (0 ≤ v ∧ v ≤ 1) ∧ ((0 : Int) = v → CMS o x1 x2 x3 x4)) := by
  unfold s_X12_comes
  refine T_qNm (fun m14 e_m14 => ?_)
  unfold e_X12_comes_8
  refine T_qB (tl_X12_comes_8 o x2 x3 x4 m14 1 hB_o (by omega) (by omega) (by omega) (by omega) (by first | assumption | exact ZG_rf | exact ZG_tr w1 zg9 | exact ZG_tr w3 zg9 | (rw [e_m3]; exact ZG_or w3 (by omega) (by omega) (by omega))) (by first | assumption | exact (fun e => absurd e (by decide)) | exact (fun _ => CCC_0) | exact (fun e => CCC_s (zm9 e).2.1 (w4 (zm9 e).1) (zm9 e).2.2) | (intro e; have q9 := w4 e; rwa [show x8 = 64 by omega] at q9))) (fun r21 hc_r21 hp22 => ?_)
  obtain ⟨z5_23, q_z5_23⟩ : ∃ q, q = r21 := ⟨_, rfl⟩
  subst q_z5_23
  replace hp22 : (ZG o x4 m14 z5_23) ∧ (CCC o x3 x4 z5_23 64) := hp22
  have hps_hp22 := hp22
  obtain ⟨hp22_0, hp22_1⟩ := hps_hp22
  replace hp22 := hid hp22
  show T (b_X12_comes_118 o x2 z5_23) _
  have zg9 : ZG o x4 m14 z5_23 := by assumption
  have cc9 : CCC o x3 x4 z5_23 64 := by assumption
  unfold b_X12_comes_118
  refine T_qB (t_X12_has z5_23 x2 (by omega)) (fun r1 hc_r1 hp24 => ?_)
  replace hp24 : ((r1 = 1 ∧ bt z5_23 x2.toNat = true) ∨ (r1 = 0 ∧ bt z5_23 x2.toNat = false)) := hp24
  have hb1 : (0 : Int) = r1 → bt z5_23 x2.toNat = false := fun e => hp24.elim (fun q => absurd (q.1.symm.trans e.symm) (by decide)) (fun q => q.2)
  have hb_r1 := fun e : r1 = 0 => Or.elim hp24 (fun q => absurd (q.1.symm.trans e) (by decide)) (fun q => q.2)
  refine T_qZ (by omega) ?_
  refine T_some ?_
  show (0 ≤ r1 ∧ r1 ≤ 1) ∧ ((0 : Int) = r1 → CMS o x1 x2 x3 x4)
  exact ⟨(by omega), (fun e => CMS_of (by omega) (hb1 e) (by rw [← e_m14]; exact zg9) cc9)⟩
set_option maxRecDepth 20000 in
set_option maxHeartbeats 4000000 in
theorem tl_X12_finds_3 (x1 : Int) (x2 : Int) (x3 : Int) (i_o : OO) (i_x4 : Int) (hB_i_o : BoxM i_o) (v0 : 0 ≤ i_x4 ∧ i_x4 ≤ 128) (v1 : FP i_o 61 i_x4 (-9)) : T (loopW (fun s => l_X12_finds_3 x1 x2 x3 s.1 s.2) (i_o, i_x4)) (fun r => BoxM r ∧ (Fr [(61, 9999)] i_o r) ∧ (FP r 61 128 (-9))) := by
  have fr_i_o : Fr [(61, 9999)] i_o i_o := Fr.rf
  refine T_loop (fun s => BoxM s.1 ∧ (Fr [(61, 9999)] i_o s.1) ∧ (0 ≤ s.2 ∧ s.2 ≤ 128) ∧ (FP s.1 61 s.2 (-9))) (fun s => (128 - s.2).toNat) (by exact ⟨hB_i_o, fr_i_o, v0, v1⟩) (fun s hs => ?_)
  obtain ⟨o, x4⟩ := s
  replace hs : BoxM o ∧ (Fr [(61, 9999)] i_o o) ∧ (0 ≤ x4 ∧ x4 ≤ 128) ∧ (FP o 61 x4 (-9)) := hs
  obtain ⟨hB_o, fr_o, w0, w1⟩ := hs
  show T (l_X12_finds_3 x1 x2 x3 o x4) _
  unfold l_X12_finds_3
  refine T_qLt ⟨by omega, by omega⟩ ⟨by decide, by decide⟩ (fun h1 => ?_) (fun h1 => ?_)
  ·
    refine T_qIn ⟨by omega, by omega⟩ ?_
    refine T_qNm (fun o38 e_o38 => ?_)
    have hB_o38 : BoxM o38 := by rw [e_o38]; exact Box.s1 hB_o (show -9 ≤ (-9) ∧ (-9) ≤ 127 from ⟨by omega, by omega⟩)
    have fr_o38 : Fr [(61, 9999)] i_o o38 := by rw [e_o38]; exact Fr.s1 fr_o rfl
    refine T_some ?_
    show (BoxM o38 ∧ (Fr [(61, 9999)] i_o o38) ∧ (0 ≤ (x4 + 1) ∧ (x4 + 1) ≤ 128) ∧ (FP o38 61 (x4 + 1) (-9))) ∧ (128 - (x4 + 1)).toNat < (128 - x4).toNat
    exact ⟨⟨hB_o38, fr_o38, (by omega), (by first | assumption | exact FP_0 | (rw [e_o38]; exact FP_s w1 (by omega)) | (have q9 := w1; rwa [show x4 = 128 by omega] at q9))⟩, by omega⟩
  ·
    refine T_some ?_
    show BoxM o ∧ (Fr [(61, 9999)] i_o o) ∧ (FP o 61 128 (-9))
    exact ⟨hB_o, fr_o, (by first | assumption | exact FP_0 | (rw [e_o38]; exact FP_s w1 (by omega)) | (have q9 := w1; rwa [show x4 = 128 by omega] at q9))⟩
set_option maxRecDepth 20000 in
set_option maxHeartbeats 4000000 in
theorem tl_X12_finds_86 (x2 : Int) (x3 : Int) (x4 : Int) (x6 : Int) (x7 : Int) (i_o : OO) (i_x5 : Int) (i_x8 : Int) (hB_i_o : BoxM i_o) (k0 : 0 ≤ x2 ∧ x2 ≤ 63) (k1 : inR x3) (k2 : 0 ≤ x6 ∧ x6 ≤ 127) (k3 : x7 = x6 / 2) (k4 : 0 ≤ i_o.1 61 x6.toNat) (v0 : 0 ≤ i_x8 ∧ i_x8 ≤ 4) (v1 : FI i_o x3 i_x5) (v2 : ∀ k, 0 ≤ i_o.1 61 k → i_o.1 61 k = i_o.1 61 k) (v3 : i_x5 ≤ i_x5) : T (loopW (fun s => l_X12_finds_86 x2 x3 x4 x6 x7 s.1 s.2.1 s.2.2) (i_o, i_x5, i_x8)) (fun r => BoxM r.1 ∧ (Fr [(61, 9999), (62, 9999)] i_o r.1) ∧ (FI r.1 x3 r.2) ∧ (∀ k, 0 ≤ i_o.1 61 k → r.1.1 61 k = i_o.1 61 k) ∧ (i_x5 ≤ r.2)) := by
  have fr_i_o : Fr [(61, 9999), (62, 9999)] i_o i_o := Fr.rf
  refine T_loop (fun s => BoxM s.1 ∧ (Fr [(61, 9999), (62, 9999)] i_o s.1) ∧ (0 ≤ s.2.2 ∧ s.2.2 ≤ 4) ∧ (FI s.1 x3 s.2.1) ∧ (∀ k, 0 ≤ i_o.1 61 k → s.1.1 61 k = i_o.1 61 k) ∧ (i_x5 ≤ s.2.1)) (fun s => (4 - s.2.2).toNat) (by exact ⟨hB_i_o, fr_i_o, v0, v1, v2, v3⟩) (fun s hs => ?_)
  obtain ⟨o, x5, x8⟩ := s
  replace hs : BoxM o ∧ (Fr [(61, 9999), (62, 9999)] i_o o) ∧ (0 ≤ x8 ∧ x8 ≤ 4) ∧ (FI o x3 x5) ∧ (∀ k, 0 ≤ i_o.1 61 k → o.1 61 k = i_o.1 61 k) ∧ (i_x5 ≤ x5) := hs
  obtain ⟨hB_o, fr_o, w0, w1, w2, w3⟩ := hs
  have ft := w1.t128
  have se6 : 0 ≤ o.1 61 x6.toNat := by rw [w2 _ (by assumption)]; assumption
  show T (l_X12_finds_86 x2 x3 x4 x6 x7 o x5 x8) _
  unfold l_X12_finds_86
  refine T_qLt ⟨by omega, by omega⟩ ⟨by decide, by decide⟩ (fun h2 => ?_) (fun h2 => ?_)
  ·
    refine T_qB (t_X12_beside x7 x8 (by omega) (by omega)) (fun r23 hc_r23 hp3 => ?_)
    replace hp3 : (r23 = -9 ∨ (0 ≤ r23 ∧ r23 ≤ 63 ∧ (x8 = 0 ∧ r23 = x7 - 8 ∨ x8 = 1 ∧ r23 = x7 - 1 ∨ x8 = 2 ∧ r23 = x7 + 1 ∨ x8 = 3 ∧ r23 = x7 + 8))) ∧ (r23 = bsd x7 x8) := hp3
    have hps_hp3 := hp3
    obtain ⟨hp3_0, hp3_1⟩ := hps_hp3
    replace hp3 := hid hp3
    have hq23 := hp3_1
    have hb23 : r23 = -9 ∨ (0 ≤ r23 ∧ r23 ≤ 63) := by omega
    clear hp3_0
    refine T_qLt ⟨by omega, by omega⟩ ⟨by decide, by decide⟩ (fun h4 => ?_) (fun h4 => ?_)
    ·
      unfold b_X12_finds_207
      refine T_some ?_
      show (BoxM o ∧ (Fr [(61, 9999), (62, 9999)] i_o o) ∧ (0 ≤ (x8 + 1) ∧ (x8 + 1) ≤ 4) ∧ (FI o x3 x5) ∧ (∀ k, 0 ≤ i_o.1 61 k → o.1 61 k = i_o.1 61 k) ∧ (i_x5 ≤ x5)) ∧ (4 - (x8 + 1)).toNat < (4 - x8).toNat
      exact ⟨⟨hB_o, fr_o, (by omega), (by assumption), (by first | assumption | exact (fun k hk => rfl) | exact (fun k hk => (sn9 k (by rw [w2 k hk]; exact hk)).trans (w2 k hk)) | exact (fun k hk => by rw [sn7 k (by rw [sn9 k (by rw [w2 k hk]; exact hk), w2 k hk]; exact hk), sn9 k (by rw [w2 k hk]; exact hk)]; exact w2 k hk)), (by omega)⟩, by omega⟩
    ·
      refine T_qDv ⟨⟨by omega, by omega⟩, ⟨by decide, by decide⟩, by decide⟩ ?_
      have jd5 : jq x6 2 = x6 / 2 := jq_nn (by omega)
      refine T_qEq ⟨by omega, by omega⟩ ⟨by decide, by decide⟩ (fun h6 => ?_) (fun h6 => ?_)
      ·
        refine T_qB (t_X12_leads o x7 r23 x3 hB_o (by omega) (by omega) (by omega)) (fun r28 hc_r28 hp7 => ?_)
        replace hp7 : ((r28 = 1 ∧ 0 ≤ r23) ∨ r28 = 0) := hp7
        have arcA : ¬ r28 = 0 → x6 % 2 = 1 → ARC o x3 x6 (2 * r23) := fun e e2 => ARC_A (c := x7) e2 (by omega) hq23 (by omega) hc_r28 e
        refine T_qEq ⟨by omega, by omega⟩ ⟨by decide, by decide⟩ (fun h8 => ?_) (fun h8 => ?_)
        ·
          unfold b_X12_finds_169
          refine T_qLt ⟨by decide, by decide⟩ ⟨by decide, by decide⟩ (fun h9 => ?_) (fun h9 => ?_)
          ·
            unfold b_X12_finds_207
            refine T_some ?_
            show (BoxM o ∧ (Fr [(61, 9999), (62, 9999)] i_o o) ∧ (0 ≤ (x8 + 1) ∧ (x8 + 1) ≤ 4) ∧ (FI o x3 x5) ∧ (∀ k, 0 ≤ i_o.1 61 k → o.1 61 k = i_o.1 61 k) ∧ (i_x5 ≤ x5)) ∧ (4 - (x8 + 1)).toNat < (4 - x8).toNat
            exact ⟨⟨hB_o, fr_o, (by omega), (by assumption), (by first | assumption | exact (fun k hk => rfl) | exact (fun k hk => (sn9 k (by rw [w2 k hk]; exact hk)).trans (w2 k hk)) | exact (fun k hk => by rw [sn7 k (by rw [sn9 k (by rw [w2 k hk]; exact hk), w2 k hk]; exact hk), sn9 k (by rw [w2 k hk]; exact hk)]; exact w2 k hk)), (by omega)⟩, by omega⟩
          ·
            refine T_qIn ⟨by omega, by omega⟩ ?_
            refine T_qNm (fun n18 e_n18 => ?_)
            have b_n18 : -9 ≤ n18 ∧ n18 ≤ 127 := by rw [e_n18]; exact bM_61 hB_o _
            refine T_qLt ⟨by omega, by omega⟩ ⟨by decide, by decide⟩ (fun h10 => ?_) (fun h10 => ?_)
            ·
              refine T_qIn ⟨by omega, by omega⟩ ?_
              refine T_qNm (fun o20 e_o20 => ?_)
              have hB_o20 : BoxM o20 := by rw [e_o20]; exact Box.s1 hB_o (show -9 ≤ x6 ∧ x6 ≤ 127 from ⟨by omega, by omega⟩)
              have fr_o20 : Fr [(61, 9999), (62, 9999)] i_o o20 := by rw [e_o20]; exact Fr.s1 fr_o rfl
              have flt := FI.lt w1 (x := (-9)) (by omega) (by omega)
              refine T_qIn ⟨by omega, by omega⟩ ?_
              refine T_qNm (fun o22 e_o22 => ?_)
              have hB_o22 : BoxM o22 := by rw [e_o22]; exact Box.s1 hB_o20 (show 0 ≤ (-9) ∧ (-9) ≤ 127 from ⟨by omega, by omega⟩)
              have fr_o22 : Fr [(61, 9999), (62, 9999)] i_o o22 := by rw [e_o22]; exact Fr.s1 fr_o20 rfl
              have fi22 : FI o22 x3 (x5 + 1) := by rw [e_o22, e_o20]; exact FI_add hB_o w1 (by omega) (by omega) (by omega) se6 (by first | exact arcA (by omega) (by omega) | exact arcB (by omega) (by omega) | (exfalso; omega))
              have sn22 : ∀ k, 0 ≤ i_o.1 61 k → o22.1 61 k = i_o.1 61 k := fun k hk => by rw [e_o22, e_o20]; show (st1 o 61 (-9).toNat x6).1 61 k = _; rw [st1_ne (fun e => by have q := w2 k hk; rw [e] at q hk; omega)]; exact w2 k hk
              unfold b_X12_finds_207
              refine T_some ?_
              show (BoxM o22 ∧ (Fr [(61, 9999), (62, 9999)] i_o o22) ∧ (0 ≤ (x8 + 1) ∧ (x8 + 1) ≤ 4) ∧ (FI o22 x3 (x5 + 1)) ∧ (∀ k, 0 ≤ i_o.1 61 k → o22.1 61 k = i_o.1 61 k) ∧ (i_x5 ≤ (x5 + 1))) ∧ (4 - (x8 + 1)).toNat < (4 - x8).toNat
              exact ⟨⟨hB_o22, fr_o22, (by omega), (by assumption), (by first | assumption | exact (fun k hk => rfl) | exact (fun k hk => (sn9 k (by rw [w2 k hk]; exact hk)).trans (w2 k hk)) | exact (fun k hk => by rw [sn7 k (by rw [sn9 k (by rw [w2 k hk]; exact hk), w2 k hk]; exact hk), sn9 k (by rw [w2 k hk]; exact hk)]; exact w2 k hk)), (by omega)⟩, by omega⟩
            ·
              unfold b_X12_finds_207
              refine T_some ?_
              show (BoxM o ∧ (Fr [(61, 9999), (62, 9999)] i_o o) ∧ (0 ≤ (x8 + 1) ∧ (x8 + 1) ≤ 4) ∧ (FI o x3 x5) ∧ (∀ k, 0 ≤ i_o.1 61 k → o.1 61 k = i_o.1 61 k) ∧ (i_x5 ≤ x5)) ∧ (4 - (x8 + 1)).toNat < (4 - x8).toNat
              exact ⟨⟨hB_o, fr_o, (by omega), (by assumption), (by first | assumption | exact (fun k hk => rfl) | exact (fun k hk => (sn9 k (by rw [w2 k hk]; exact hk)).trans (w2 k hk)) | exact (fun k hk => by rw [sn7 k (by rw [sn9 k (by rw [w2 k hk]; exact hk), w2 k hk]; exact hk), sn9 k (by rw [w2 k hk]; exact hk)]; exact w2 k hk)), (by omega)⟩, by omega⟩
        ·
          unfold b_X12_finds_169
          refine T_qLt ⟨by omega, by omega⟩ ⟨by decide, by decide⟩ (fun h11 => ?_) (fun h11 => ?_)
          ·
            unfold b_X12_finds_207
            refine T_some ?_
            show (BoxM o ∧ (Fr [(61, 9999), (62, 9999)] i_o o) ∧ (0 ≤ (x8 + 1) ∧ (x8 + 1) ≤ 4) ∧ (FI o x3 x5) ∧ (∀ k, 0 ≤ i_o.1 61 k → o.1 61 k = i_o.1 61 k) ∧ (i_x5 ≤ x5)) ∧ (4 - (x8 + 1)).toNat < (4 - x8).toNat
            exact ⟨⟨hB_o, fr_o, (by omega), (by assumption), (by first | assumption | exact (fun k hk => rfl) | exact (fun k hk => (sn9 k (by rw [w2 k hk]; exact hk)).trans (w2 k hk)) | exact (fun k hk => by rw [sn7 k (by rw [sn9 k (by rw [w2 k hk]; exact hk), w2 k hk]; exact hk), sn9 k (by rw [w2 k hk]; exact hk)]; exact w2 k hk)), (by omega)⟩, by omega⟩
          ·
            refine T_qIn ⟨by omega, by omega⟩ ?_
            refine T_qNm (fun n18 e_n18 => ?_)
            have b_n18 : -9 ≤ n18 ∧ n18 ≤ 127 := by rw [e_n18]; exact bM_61 hB_o _
            refine T_qLt ⟨by omega, by omega⟩ ⟨by decide, by decide⟩ (fun h12 => ?_) (fun h12 => ?_)
            ·
              refine T_qIn ⟨by omega, by omega⟩ ?_
              refine T_qNm (fun o20 e_o20 => ?_)
              have hB_o20 : BoxM o20 := by rw [e_o20]; exact Box.s1 hB_o (show -9 ≤ x6 ∧ x6 ≤ 127 from ⟨by omega, by omega⟩)
              have fr_o20 : Fr [(61, 9999), (62, 9999)] i_o o20 := by rw [e_o20]; exact Fr.s1 fr_o rfl
              have flt := FI.lt w1 (x := (2 * r23)) (by omega) (by omega)
              refine T_qIn ⟨by omega, by omega⟩ ?_
              refine T_qNm (fun o22 e_o22 => ?_)
              have hB_o22 : BoxM o22 := by rw [e_o22]; exact Box.s1 hB_o20 (show 0 ≤ (2 * r23) ∧ (2 * r23) ≤ 127 from ⟨by omega, by omega⟩)
              have fr_o22 : Fr [(61, 9999), (62, 9999)] i_o o22 := by rw [e_o22]; exact Fr.s1 fr_o20 rfl
              have fi22 : FI o22 x3 (x5 + 1) := by rw [e_o22, e_o20]; exact FI_add hB_o w1 (by omega) (by omega) (by omega) se6 (by first | exact arcA (by omega) (by omega) | exact arcB (by omega) (by omega) | (exfalso; omega))
              have sn22 : ∀ k, 0 ≤ i_o.1 61 k → o22.1 61 k = i_o.1 61 k := fun k hk => by rw [e_o22, e_o20]; show (st1 o 61 (2 * r23).toNat x6).1 61 k = _; rw [st1_ne (fun e => by have q := w2 k hk; rw [e] at q hk; omega)]; exact w2 k hk
              unfold b_X12_finds_207
              refine T_some ?_
              show (BoxM o22 ∧ (Fr [(61, 9999), (62, 9999)] i_o o22) ∧ (0 ≤ (x8 + 1) ∧ (x8 + 1) ≤ 4) ∧ (FI o22 x3 (x5 + 1)) ∧ (∀ k, 0 ≤ i_o.1 61 k → o22.1 61 k = i_o.1 61 k) ∧ (i_x5 ≤ (x5 + 1))) ∧ (4 - (x8 + 1)).toNat < (4 - x8).toNat
              exact ⟨⟨hB_o22, fr_o22, (by omega), (by assumption), (by first | assumption | exact (fun k hk => rfl) | exact (fun k hk => (sn9 k (by rw [w2 k hk]; exact hk)).trans (w2 k hk)) | exact (fun k hk => by rw [sn7 k (by rw [sn9 k (by rw [w2 k hk]; exact hk), w2 k hk]; exact hk), sn9 k (by rw [w2 k hk]; exact hk)]; exact w2 k hk)), (by omega)⟩, by omega⟩
            ·
              unfold b_X12_finds_207
              refine T_some ?_
              show (BoxM o ∧ (Fr [(61, 9999), (62, 9999)] i_o o) ∧ (0 ≤ (x8 + 1) ∧ (x8 + 1) ≤ 4) ∧ (FI o x3 x5) ∧ (∀ k, 0 ≤ i_o.1 61 k → o.1 61 k = i_o.1 61 k) ∧ (i_x5 ≤ x5)) ∧ (4 - (x8 + 1)).toNat < (4 - x8).toNat
              exact ⟨⟨hB_o, fr_o, (by omega), (by assumption), (by first | assumption | exact (fun k hk => rfl) | exact (fun k hk => (sn9 k (by rw [w2 k hk]; exact hk)).trans (w2 k hk)) | exact (fun k hk => by rw [sn7 k (by rw [sn9 k (by rw [w2 k hk]; exact hk), w2 k hk]; exact hk), sn9 k (by rw [w2 k hk]; exact hk)]; exact w2 k hk)), (by omega)⟩, by omega⟩
      ·
        refine T_qIn ⟨by omega, by omega⟩ ?_
        refine T_qNm (fun n27 e_n27 => ?_)
        have b_n27 : -2147483648 ≤ n27 ∧ n27 ≤ 2147483647 := by rw [e_n27]; exact bM_60 hB_o _
        have arcB : 0 < n27 → ¬ x6 % 2 = 1 → ARC o x3 x6 ((2 * r23) + 1) := fun e e2 => ARC_B (c := x7) (by omega) (by omega) hq23 (by omega) (by rw [e_n27] at e; exact e)
        refine T_qLt ⟨by decide, by decide⟩ ⟨by omega, by omega⟩ (fun h13 => ?_) (fun h13 => ?_)
        ·
          unfold b_X12_finds_169
          refine T_qLt ⟨by omega, by omega⟩ ⟨by decide, by decide⟩ (fun h14 => ?_) (fun h14 => ?_)
          ·
            unfold b_X12_finds_207
            refine T_some ?_
            show (BoxM o ∧ (Fr [(61, 9999), (62, 9999)] i_o o) ∧ (0 ≤ (x8 + 1) ∧ (x8 + 1) ≤ 4) ∧ (FI o x3 x5) ∧ (∀ k, 0 ≤ i_o.1 61 k → o.1 61 k = i_o.1 61 k) ∧ (i_x5 ≤ x5)) ∧ (4 - (x8 + 1)).toNat < (4 - x8).toNat
            exact ⟨⟨hB_o, fr_o, (by omega), (by assumption), (by first | assumption | exact (fun k hk => rfl) | exact (fun k hk => (sn9 k (by rw [w2 k hk]; exact hk)).trans (w2 k hk)) | exact (fun k hk => by rw [sn7 k (by rw [sn9 k (by rw [w2 k hk]; exact hk), w2 k hk]; exact hk), sn9 k (by rw [w2 k hk]; exact hk)]; exact w2 k hk)), (by omega)⟩, by omega⟩
          ·
            refine T_qIn ⟨by omega, by omega⟩ ?_
            refine T_qNm (fun n18 e_n18 => ?_)
            have b_n18 : -9 ≤ n18 ∧ n18 ≤ 127 := by rw [e_n18]; exact bM_61 hB_o _
            refine T_qLt ⟨by omega, by omega⟩ ⟨by decide, by decide⟩ (fun h15 => ?_) (fun h15 => ?_)
            ·
              refine T_qIn ⟨by omega, by omega⟩ ?_
              refine T_qNm (fun o20 e_o20 => ?_)
              have hB_o20 : BoxM o20 := by rw [e_o20]; exact Box.s1 hB_o (show -9 ≤ x6 ∧ x6 ≤ 127 from ⟨by omega, by omega⟩)
              have fr_o20 : Fr [(61, 9999), (62, 9999)] i_o o20 := by rw [e_o20]; exact Fr.s1 fr_o rfl
              have flt := FI.lt w1 (x := ((2 * r23) + 1)) (by omega) (by omega)
              refine T_qIn ⟨by omega, by omega⟩ ?_
              refine T_qNm (fun o22 e_o22 => ?_)
              have hB_o22 : BoxM o22 := by rw [e_o22]; exact Box.s1 hB_o20 (show 0 ≤ ((2 * r23) + 1) ∧ ((2 * r23) + 1) ≤ 127 from ⟨by omega, by omega⟩)
              have fr_o22 : Fr [(61, 9999), (62, 9999)] i_o o22 := by rw [e_o22]; exact Fr.s1 fr_o20 rfl
              have fi22 : FI o22 x3 (x5 + 1) := by rw [e_o22, e_o20]; exact FI_add hB_o w1 (by omega) (by omega) (by omega) se6 (by first | exact arcA (by omega) (by omega) | exact arcB (by omega) (by omega) | (exfalso; omega))
              have sn22 : ∀ k, 0 ≤ i_o.1 61 k → o22.1 61 k = i_o.1 61 k := fun k hk => by rw [e_o22, e_o20]; show (st1 o 61 ((2 * r23) + 1).toNat x6).1 61 k = _; rw [st1_ne (fun e => by have q := w2 k hk; rw [e] at q hk; omega)]; exact w2 k hk
              unfold b_X12_finds_207
              refine T_some ?_
              show (BoxM o22 ∧ (Fr [(61, 9999), (62, 9999)] i_o o22) ∧ (0 ≤ (x8 + 1) ∧ (x8 + 1) ≤ 4) ∧ (FI o22 x3 (x5 + 1)) ∧ (∀ k, 0 ≤ i_o.1 61 k → o22.1 61 k = i_o.1 61 k) ∧ (i_x5 ≤ (x5 + 1))) ∧ (4 - (x8 + 1)).toNat < (4 - x8).toNat
              exact ⟨⟨hB_o22, fr_o22, (by omega), (by assumption), (by first | assumption | exact (fun k hk => rfl) | exact (fun k hk => (sn9 k (by rw [w2 k hk]; exact hk)).trans (w2 k hk)) | exact (fun k hk => by rw [sn7 k (by rw [sn9 k (by rw [w2 k hk]; exact hk), w2 k hk]; exact hk), sn9 k (by rw [w2 k hk]; exact hk)]; exact w2 k hk)), (by omega)⟩, by omega⟩
            ·
              unfold b_X12_finds_207
              refine T_some ?_
              show (BoxM o ∧ (Fr [(61, 9999), (62, 9999)] i_o o) ∧ (0 ≤ (x8 + 1) ∧ (x8 + 1) ≤ 4) ∧ (FI o x3 x5) ∧ (∀ k, 0 ≤ i_o.1 61 k → o.1 61 k = i_o.1 61 k) ∧ (i_x5 ≤ x5)) ∧ (4 - (x8 + 1)).toNat < (4 - x8).toNat
              exact ⟨⟨hB_o, fr_o, (by omega), (by assumption), (by first | assumption | exact (fun k hk => rfl) | exact (fun k hk => (sn9 k (by rw [w2 k hk]; exact hk)).trans (w2 k hk)) | exact (fun k hk => by rw [sn7 k (by rw [sn9 k (by rw [w2 k hk]; exact hk), w2 k hk]; exact hk), sn9 k (by rw [w2 k hk]; exact hk)]; exact w2 k hk)), (by omega)⟩, by omega⟩
        ·
          unfold b_X12_finds_169
          refine T_qLt ⟨by decide, by decide⟩ ⟨by decide, by decide⟩ (fun h16 => ?_) (fun h16 => ?_)
          ·
            unfold b_X12_finds_207
            refine T_some ?_
            show (BoxM o ∧ (Fr [(61, 9999), (62, 9999)] i_o o) ∧ (0 ≤ (x8 + 1) ∧ (x8 + 1) ≤ 4) ∧ (FI o x3 x5) ∧ (∀ k, 0 ≤ i_o.1 61 k → o.1 61 k = i_o.1 61 k) ∧ (i_x5 ≤ x5)) ∧ (4 - (x8 + 1)).toNat < (4 - x8).toNat
            exact ⟨⟨hB_o, fr_o, (by omega), (by assumption), (by first | assumption | exact (fun k hk => rfl) | exact (fun k hk => (sn9 k (by rw [w2 k hk]; exact hk)).trans (w2 k hk)) | exact (fun k hk => by rw [sn7 k (by rw [sn9 k (by rw [w2 k hk]; exact hk), w2 k hk]; exact hk), sn9 k (by rw [w2 k hk]; exact hk)]; exact w2 k hk)), (by omega)⟩, by omega⟩
          ·
            refine T_qIn ⟨by omega, by omega⟩ ?_
            refine T_qNm (fun n18 e_n18 => ?_)
            have b_n18 : -9 ≤ n18 ∧ n18 ≤ 127 := by rw [e_n18]; exact bM_61 hB_o _
            refine T_qLt ⟨by omega, by omega⟩ ⟨by decide, by decide⟩ (fun h17 => ?_) (fun h17 => ?_)
            ·
              refine T_qIn ⟨by omega, by omega⟩ ?_
              refine T_qNm (fun o20 e_o20 => ?_)
              have hB_o20 : BoxM o20 := by rw [e_o20]; exact Box.s1 hB_o (show -9 ≤ x6 ∧ x6 ≤ 127 from ⟨by omega, by omega⟩)
              have fr_o20 : Fr [(61, 9999), (62, 9999)] i_o o20 := by rw [e_o20]; exact Fr.s1 fr_o rfl
              have flt := FI.lt w1 (x := (-9)) (by omega) (by omega)
              refine T_qIn ⟨by omega, by omega⟩ ?_
              refine T_qNm (fun o22 e_o22 => ?_)
              have hB_o22 : BoxM o22 := by rw [e_o22]; exact Box.s1 hB_o20 (show 0 ≤ (-9) ∧ (-9) ≤ 127 from ⟨by omega, by omega⟩)
              have fr_o22 : Fr [(61, 9999), (62, 9999)] i_o o22 := by rw [e_o22]; exact Fr.s1 fr_o20 rfl
              have fi22 : FI o22 x3 (x5 + 1) := by rw [e_o22, e_o20]; exact FI_add hB_o w1 (by omega) (by omega) (by omega) se6 (by first | exact arcA (by omega) (by omega) | exact arcB (by omega) (by omega) | (exfalso; omega))
              have sn22 : ∀ k, 0 ≤ i_o.1 61 k → o22.1 61 k = i_o.1 61 k := fun k hk => by rw [e_o22, e_o20]; show (st1 o 61 (-9).toNat x6).1 61 k = _; rw [st1_ne (fun e => by have q := w2 k hk; rw [e] at q hk; omega)]; exact w2 k hk
              unfold b_X12_finds_207
              refine T_some ?_
              show (BoxM o22 ∧ (Fr [(61, 9999), (62, 9999)] i_o o22) ∧ (0 ≤ (x8 + 1) ∧ (x8 + 1) ≤ 4) ∧ (FI o22 x3 (x5 + 1)) ∧ (∀ k, 0 ≤ i_o.1 61 k → o22.1 61 k = i_o.1 61 k) ∧ (i_x5 ≤ (x5 + 1))) ∧ (4 - (x8 + 1)).toNat < (4 - x8).toNat
              exact ⟨⟨hB_o22, fr_o22, (by omega), (by assumption), (by first | assumption | exact (fun k hk => rfl) | exact (fun k hk => (sn9 k (by rw [w2 k hk]; exact hk)).trans (w2 k hk)) | exact (fun k hk => by rw [sn7 k (by rw [sn9 k (by rw [w2 k hk]; exact hk), w2 k hk]; exact hk), sn9 k (by rw [w2 k hk]; exact hk)]; exact w2 k hk)), (by omega)⟩, by omega⟩
            ·
              unfold b_X12_finds_207
              refine T_some ?_
              show (BoxM o ∧ (Fr [(61, 9999), (62, 9999)] i_o o) ∧ (0 ≤ (x8 + 1) ∧ (x8 + 1) ≤ 4) ∧ (FI o x3 x5) ∧ (∀ k, 0 ≤ i_o.1 61 k → o.1 61 k = i_o.1 61 k) ∧ (i_x5 ≤ x5)) ∧ (4 - (x8 + 1)).toNat < (4 - x8).toNat
              exact ⟨⟨hB_o, fr_o, (by omega), (by assumption), (by first | assumption | exact (fun k hk => rfl) | exact (fun k hk => (sn9 k (by rw [w2 k hk]; exact hk)).trans (w2 k hk)) | exact (fun k hk => by rw [sn7 k (by rw [sn9 k (by rw [w2 k hk]; exact hk), w2 k hk]; exact hk), sn9 k (by rw [w2 k hk]; exact hk)]; exact w2 k hk)), (by omega)⟩, by omega⟩
  ·
    refine T_some ?_
    show BoxM o ∧ (Fr [(61, 9999), (62, 9999)] i_o o) ∧ (FI o x3 x5) ∧ (∀ k, 0 ≤ i_o.1 61 k → o.1 61 k = i_o.1 61 k) ∧ (i_x5 ≤ x5)
    exact ⟨hB_o, fr_o, (by assumption), (by first | assumption | exact (fun k hk => rfl) | exact (fun k hk => (sn9 k (by rw [w2 k hk]; exact hk)).trans (w2 k hk)) | exact (fun k hk => by rw [sn7 k (by rw [sn9 k (by rw [w2 k hk]; exact hk), w2 k hk]; exact hk), sn9 k (by rw [w2 k hk]; exact hk)]; exact w2 k hk)), (by omega)⟩
set_option maxRecDepth 20000 in
set_option maxHeartbeats 4000000 in
theorem tl_X12_finds_58 (x2 : Int) (x3 : Int) (i_o : OO) (i_x4 : Int) (i_x5 : Int) (hB_i_o : BoxM i_o) (k0 : 0 ≤ x2 ∧ x2 ≤ 63) (k1 : inR x3) (v0 : 0 ≤ i_x4 ∧ i_x4 ≤ i_x5) (v1 : FI i_o x3 i_x5) (v2 : ∀ k, 0 ≤ i_o.1 61 k → i_o.1 61 k = i_o.1 61 k) : T (loopW (fun s => l_X12_finds_58 x2 x3 s.1 s.2.1 s.2.2) (i_o, i_x4, i_x5)) (fun r => BoxM r ∧ (Fr [(61, 9999), (62, 9999)] i_o r) ∧ (∃ t, FI r x3 t) ∧ (∀ k, 0 ≤ i_o.1 61 k → r.1 61 k = i_o.1 61 k)) := by
  have fr_i_o : Fr [(61, 9999), (62, 9999)] i_o i_o := Fr.rf
  refine T_loop (fun s => BoxM s.1 ∧ (Fr [(61, 9999), (62, 9999)] i_o s.1) ∧ (0 ≤ s.2.1 ∧ s.2.1 ≤ s.2.2) ∧ (FI s.1 x3 s.2.2) ∧ (∀ k, 0 ≤ i_o.1 61 k → s.1.1 61 k = i_o.1 61 k)) (fun s => (128 - s.2.1).toNat) (by exact ⟨hB_i_o, fr_i_o, v0, v1, v2⟩) (fun s hs => ?_)
  obtain ⟨o, x4, x5⟩ := s
  replace hs : BoxM o ∧ (Fr [(61, 9999), (62, 9999)] i_o o) ∧ (0 ≤ x4 ∧ x4 ≤ x5) ∧ (FI o x3 x5) ∧ (∀ k, 0 ≤ i_o.1 61 k → o.1 61 k = i_o.1 61 k) := hs
  obtain ⟨hB_o, fr_o, w0, w1, w2⟩ := hs
  have ft := w1.t128
  show T (l_X12_finds_58 x2 x3 o x4 x5) _
  unfold l_X12_finds_58
  refine T_qLt ⟨by omega, by omega⟩ ⟨by omega, by omega⟩ (fun h18 => ?_) (fun h18 => ?_)
  ·
    refine T_qIn ⟨by omega, by omega⟩ ?_
    refine T_qNm (fun n31 e_n31 => ?_)
    have b_n31 : 0 ≤ n31 ∧ n31 ≤ 127 := by rw [e_n31]; exact bM_62 hB_o _
    have qs := w1.2.1 x4 (by omega) (by omega)
    rw [← e_n31] at qs
    refine T_qDv ⟨⟨by omega, by omega⟩, ⟨by decide, by decide⟩, by decide⟩ ?_
    have jd19 : jq n31 2 = n31 / 2 := jq_nn (by omega)
    refine T_qNm (fun n33 e_n33 => ?_)
    unfold e_X12_finds_86
    refine T_qB (tl_X12_finds_86 x2 x3 (x4 + 1) n31 n33 o x5 0 hB_o (by omega) (by omega) (by omega) (by omega) (by omega) (by omega) (by assumption) (by first | assumption | exact (fun k hk => rfl) | exact (fun k hk => (sn9 k (by rw [w2 k hk]; exact hk)).trans (w2 k hk)) | exact (fun k hk => by rw [sn7 k (by rw [sn9 k (by rw [w2 k hk]; exact hk), w2 k hk]; exact hk), sn9 k (by rw [w2 k hk]; exact hk)]; exact w2 k hk)) (by omega)) (fun r20 hc_r20 hp21 => ?_)
    obtain ⟨o_22, x5_23⟩ := r20
    replace hp21 : BoxM o_22 ∧ (Fr [(61, 9999), (62, 9999)] o o_22) ∧ (FI o_22 x3 x5_23) ∧ (∀ k, 0 ≤ o.1 61 k → o_22.1 61 k = o.1 61 k) ∧ (x5 ≤ x5_23) := hp21
    have hps_hp21 := hp21
    obtain ⟨hp21_0, hp21_1, hp21_2, hp21_3, hp21_4⟩ := hps_hp21
    obtain ⟨hB_o_22, fc_o_22, hp21⟩ := hp21
    replace hp21 := hid hp21
    have fr_o_22 : Fr [(61, 9999), (62, 9999)] i_o o_22 := Fr.tr fr_o fc_o_22 rfl
    show T (b_X12_finds_213 o_22 x2 x3 (x4 + 1) x5_23 n31 n33) _
    have hb9 := hB_o_22
    have fi9 : FI o_22 x3 x5_23 := by assumption
    have sn9 : ∀ k, 0 ≤ o.1 61 k → o_22.1 61 k = o.1 61 k := by assumption
    have se7 : 0 ≤ o_22.1 61 n31.toNat := by rw [sn9 _ qs]; exact qs
    have ft9 := fi9.t128
    unfold b_X12_finds_213
    refine T_qDv ⟨⟨by omega, by omega⟩, ⟨by decide, by decide⟩, by decide⟩ ?_
    have jd24 : jq n31 2 = n31 / 2 := jq_nn (by omega)
    refine T_qEq ⟨by omega, by omega⟩ ⟨by decide, by decide⟩ (fun h25 => ?_) (fun h25 => ?_)
    ·
      refine T_qIn ⟨by omega, by omega⟩ ?_
      refine T_qNm (fun n14 e_n14 => ?_)
      have b_n14 : 0 ≤ n14 ∧ n14 ≤ 1 := by rw [e_n14]; exact bM_58 hB_o_22 _
      refine T_qEq ⟨by omega, by omega⟩ ⟨by decide, by decide⟩ (fun h26 => ?_) (fun h26 => ?_)
      ·
        unfold b_X12_finds_240
        unfold b_X12_finds_263
        refine T_qDv ⟨⟨by omega, by omega⟩, ⟨by decide, by decide⟩, by decide⟩ ?_
        have jd27 : jq n31 2 = n31 / 2 := jq_nn (by omega)
        refine T_qEq ⟨by omega, by omega⟩ ⟨by decide, by decide⟩ (fun h28 => ?_) (fun h28 => ?_)
        ·
          unfold b_X12_finds_283
          refine T_qEq ⟨by decide, by decide⟩ ⟨by decide, by decide⟩ (fun h29 => ?_) (fun h29 => ?_)
          ·
            unfold b_X12_finds_327
            refine T_some ?_
            show (BoxM o_22 ∧ (Fr [(61, 9999), (62, 9999)] i_o o_22) ∧ (0 ≤ (x4 + 1) ∧ (x4 + 1) ≤ x5_23) ∧ (FI o_22 x3 x5_23) ∧ (∀ k, 0 ≤ i_o.1 61 k → o_22.1 61 k = i_o.1 61 k)) ∧ (128 - (x4 + 1)).toNat < (128 - x4).toNat
            exact ⟨⟨hB_o_22, fr_o_22, (by omega), (by assumption), (by first | assumption | exact (fun k hk => rfl) | exact (fun k hk => (sn9 k (by rw [w2 k hk]; exact hk)).trans (w2 k hk)) | exact (fun k hk => by rw [sn7 k (by rw [sn9 k (by rw [w2 k hk]; exact hk), w2 k hk]; exact hk), sn9 k (by rw [w2 k hk]; exact hk)]; exact w2 k hk))⟩, by omega⟩
          ·
            refine T_qEq ⟨by omega, by omega⟩ ⟨by omega, by omega⟩ (fun h30 => ?_) (fun h30 => ?_)
            ·
              unfold b_X12_finds_327
              refine T_some ?_
              show (BoxM o_22 ∧ (Fr [(61, 9999), (62, 9999)] i_o o_22) ∧ (0 ≤ (x4 + 1) ∧ (x4 + 1) ≤ x5_23) ∧ (FI o_22 x3 x5_23) ∧ (∀ k, 0 ≤ i_o.1 61 k → o_22.1 61 k = i_o.1 61 k)) ∧ (128 - (x4 + 1)).toNat < (128 - x4).toNat
              exact ⟨⟨hB_o_22, fr_o_22, (by omega), (by assumption), (by first | assumption | exact (fun k hk => rfl) | exact (fun k hk => (sn9 k (by rw [w2 k hk]; exact hk)).trans (w2 k hk)) | exact (fun k hk => by rw [sn7 k (by rw [sn9 k (by rw [w2 k hk]; exact hk), w2 k hk]; exact hk), sn9 k (by rw [w2 k hk]; exact hk)]; exact w2 k hk))⟩, by omega⟩
            ·
              refine T_qIn ⟨by omega, by omega⟩ ?_
              refine T_qNm (fun n4 e_n4 => ?_)
              have b_n4 : -9 ≤ n4 ∧ n4 ≤ 127 := by rw [e_n4]; exact bM_61 hB_o_22 _
              refine T_qLt ⟨by omega, by omega⟩ ⟨by decide, by decide⟩ (fun h31 => ?_) (fun h31 => ?_)
              ·
                refine T_qIn ⟨by omega, by omega⟩ ?_
                refine T_qNm (fun o6 e_o6 => ?_)
                have hB_o6 : BoxM o6 := by rw [e_o6]; exact Box.s1 hB_o_22 (show -9 ≤ n31 ∧ n31 ≤ 127 from ⟨by omega, by omega⟩)
                have fr_o6 : Fr [(61, 9999), (62, 9999)] i_o o6 := by rw [e_o6]; exact Fr.s1 fr_o_22 rfl
                have flt := FI.lt fi9 (x := (n31 + 1)) (by omega) (by omega)
                refine T_qIn ⟨by omega, by omega⟩ ?_
                refine T_qNm (fun o8 e_o8 => ?_)
                have hB_o8 : BoxM o8 := by rw [e_o8]; exact Box.s1 hB_o6 (show 0 ≤ (n31 + 1) ∧ (n31 + 1) ≤ 127 from ⟨by omega, by omega⟩)
                have fr_o8 : Fr [(61, 9999), (62, 9999)] i_o o8 := by rw [e_o8]; exact Fr.s1 fr_o6 rfl
                have fi8 : FI o8 x3 (x5_23 + 1) := by rw [e_o8, e_o6]; exact FI_add hb9 fi9 (by omega) (by omega) (by omega) se7 (by first | exact ARC_C (c := n33) (by omega) (by omega) (by omega) | exact ARC_D (c := n33) (by omega) (by omega) (by omega) | (exfalso; omega))
                have sn7 : ∀ k, 0 ≤ o_22.1 61 k → o8.1 61 k = o_22.1 61 k := fun k hk => by rw [e_o8, e_o6]; show (st1 o_22 61 (n31 + 1).toNat n31).1 61 k = _; rw [st1_ne (fun e => by rw [e] at hk; omega)]
                unfold b_X12_finds_327
                refine T_some ?_
                show (BoxM o8 ∧ (Fr [(61, 9999), (62, 9999)] i_o o8) ∧ (0 ≤ (x4 + 1) ∧ (x4 + 1) ≤ (x5_23 + 1)) ∧ (FI o8 x3 (x5_23 + 1)) ∧ (∀ k, 0 ≤ i_o.1 61 k → o8.1 61 k = i_o.1 61 k)) ∧ (128 - (x4 + 1)).toNat < (128 - x4).toNat
                exact ⟨⟨hB_o8, fr_o8, (by omega), (by assumption), (by first | assumption | exact (fun k hk => rfl) | exact (fun k hk => (sn9 k (by rw [w2 k hk]; exact hk)).trans (w2 k hk)) | exact (fun k hk => by rw [sn7 k (by rw [sn9 k (by rw [w2 k hk]; exact hk), w2 k hk]; exact hk), sn9 k (by rw [w2 k hk]; exact hk)]; exact w2 k hk))⟩, by omega⟩
              ·
                unfold b_X12_finds_327
                refine T_some ?_
                show (BoxM o_22 ∧ (Fr [(61, 9999), (62, 9999)] i_o o_22) ∧ (0 ≤ (x4 + 1) ∧ (x4 + 1) ≤ x5_23) ∧ (FI o_22 x3 x5_23) ∧ (∀ k, 0 ≤ i_o.1 61 k → o_22.1 61 k = i_o.1 61 k)) ∧ (128 - (x4 + 1)).toNat < (128 - x4).toNat
                exact ⟨⟨hB_o_22, fr_o_22, (by omega), (by assumption), (by first | assumption | exact (fun k hk => rfl) | exact (fun k hk => (sn9 k (by rw [w2 k hk]; exact hk)).trans (w2 k hk)) | exact (fun k hk => by rw [sn7 k (by rw [sn9 k (by rw [w2 k hk]; exact hk), w2 k hk]; exact hk), sn9 k (by rw [w2 k hk]; exact hk)]; exact w2 k hk))⟩, by omega⟩
        ·
          unfold b_X12_finds_283
          refine T_qEq ⟨by decide, by decide⟩ ⟨by decide, by decide⟩ (fun h32 => ?_) (fun h32 => ?_)
          ·
            unfold b_X12_finds_327
            refine T_some ?_
            show (BoxM o_22 ∧ (Fr [(61, 9999), (62, 9999)] i_o o_22) ∧ (0 ≤ (x4 + 1) ∧ (x4 + 1) ≤ x5_23) ∧ (FI o_22 x3 x5_23) ∧ (∀ k, 0 ≤ i_o.1 61 k → o_22.1 61 k = i_o.1 61 k)) ∧ (128 - (x4 + 1)).toNat < (128 - x4).toNat
            exact ⟨⟨hB_o_22, fr_o_22, (by omega), (by assumption), (by first | assumption | exact (fun k hk => rfl) | exact (fun k hk => (sn9 k (by rw [w2 k hk]; exact hk)).trans (w2 k hk)) | exact (fun k hk => by rw [sn7 k (by rw [sn9 k (by rw [w2 k hk]; exact hk), w2 k hk]; exact hk), sn9 k (by rw [w2 k hk]; exact hk)]; exact w2 k hk))⟩, by omega⟩
          ·
            refine T_qEq ⟨by omega, by omega⟩ ⟨by omega, by omega⟩ (fun h33 => ?_) (fun h33 => ?_)
            ·
              unfold b_X12_finds_327
              refine T_some ?_
              show (BoxM o_22 ∧ (Fr [(61, 9999), (62, 9999)] i_o o_22) ∧ (0 ≤ (x4 + 1) ∧ (x4 + 1) ≤ x5_23) ∧ (FI o_22 x3 x5_23) ∧ (∀ k, 0 ≤ i_o.1 61 k → o_22.1 61 k = i_o.1 61 k)) ∧ (128 - (x4 + 1)).toNat < (128 - x4).toNat
              exact ⟨⟨hB_o_22, fr_o_22, (by omega), (by assumption), (by first | assumption | exact (fun k hk => rfl) | exact (fun k hk => (sn9 k (by rw [w2 k hk]; exact hk)).trans (w2 k hk)) | exact (fun k hk => by rw [sn7 k (by rw [sn9 k (by rw [w2 k hk]; exact hk), w2 k hk]; exact hk), sn9 k (by rw [w2 k hk]; exact hk)]; exact w2 k hk))⟩, by omega⟩
            ·
              refine T_qIn ⟨by omega, by omega⟩ ?_
              refine T_qNm (fun n4 e_n4 => ?_)
              have b_n4 : -9 ≤ n4 ∧ n4 ≤ 127 := by rw [e_n4]; exact bM_61 hB_o_22 _
              refine T_qLt ⟨by omega, by omega⟩ ⟨by decide, by decide⟩ (fun h34 => ?_) (fun h34 => ?_)
              ·
                refine T_qIn ⟨by omega, by omega⟩ ?_
                refine T_qNm (fun o6 e_o6 => ?_)
                have hB_o6 : BoxM o6 := by rw [e_o6]; exact Box.s1 hB_o_22 (show -9 ≤ n31 ∧ n31 ≤ 127 from ⟨by omega, by omega⟩)
                have fr_o6 : Fr [(61, 9999), (62, 9999)] i_o o6 := by rw [e_o6]; exact Fr.s1 fr_o_22 rfl
                have flt := FI.lt fi9 (x := (n31 - 1)) (by omega) (by omega)
                refine T_qIn ⟨by omega, by omega⟩ ?_
                refine T_qNm (fun o8 e_o8 => ?_)
                have hB_o8 : BoxM o8 := by rw [e_o8]; exact Box.s1 hB_o6 (show 0 ≤ (n31 - 1) ∧ (n31 - 1) ≤ 127 from ⟨by omega, by omega⟩)
                have fr_o8 : Fr [(61, 9999), (62, 9999)] i_o o8 := by rw [e_o8]; exact Fr.s1 fr_o6 rfl
                have fi8 : FI o8 x3 (x5_23 + 1) := by rw [e_o8, e_o6]; exact FI_add hb9 fi9 (by omega) (by omega) (by omega) se7 (by first | exact ARC_C (c := n33) (by omega) (by omega) (by omega) | exact ARC_D (c := n33) (by omega) (by omega) (by omega) | (exfalso; omega))
                have sn7 : ∀ k, 0 ≤ o_22.1 61 k → o8.1 61 k = o_22.1 61 k := fun k hk => by rw [e_o8, e_o6]; show (st1 o_22 61 (n31 - 1).toNat n31).1 61 k = _; rw [st1_ne (fun e => by rw [e] at hk; omega)]
                unfold b_X12_finds_327
                refine T_some ?_
                show (BoxM o8 ∧ (Fr [(61, 9999), (62, 9999)] i_o o8) ∧ (0 ≤ (x4 + 1) ∧ (x4 + 1) ≤ (x5_23 + 1)) ∧ (FI o8 x3 (x5_23 + 1)) ∧ (∀ k, 0 ≤ i_o.1 61 k → o8.1 61 k = i_o.1 61 k)) ∧ (128 - (x4 + 1)).toNat < (128 - x4).toNat
                exact ⟨⟨hB_o8, fr_o8, (by omega), (by assumption), (by first | assumption | exact (fun k hk => rfl) | exact (fun k hk => (sn9 k (by rw [w2 k hk]; exact hk)).trans (w2 k hk)) | exact (fun k hk => by rw [sn7 k (by rw [sn9 k (by rw [w2 k hk]; exact hk), w2 k hk]; exact hk), sn9 k (by rw [w2 k hk]; exact hk)]; exact w2 k hk))⟩, by omega⟩
              ·
                unfold b_X12_finds_327
                refine T_some ?_
                show (BoxM o_22 ∧ (Fr [(61, 9999), (62, 9999)] i_o o_22) ∧ (0 ≤ (x4 + 1) ∧ (x4 + 1) ≤ x5_23) ∧ (FI o_22 x3 x5_23) ∧ (∀ k, 0 ≤ i_o.1 61 k → o_22.1 61 k = i_o.1 61 k)) ∧ (128 - (x4 + 1)).toNat < (128 - x4).toNat
                exact ⟨⟨hB_o_22, fr_o_22, (by omega), (by assumption), (by first | assumption | exact (fun k hk => rfl) | exact (fun k hk => (sn9 k (by rw [w2 k hk]; exact hk)).trans (w2 k hk)) | exact (fun k hk => by rw [sn7 k (by rw [sn9 k (by rw [w2 k hk]; exact hk), w2 k hk]; exact hk), sn9 k (by rw [w2 k hk]; exact hk)]; exact w2 k hk))⟩, by omega⟩
      ·
        refine T_qIn ⟨by omega, by omega⟩ ?_
        refine T_qNm (fun n16 e_n16 => ?_)
        have b_n16 : -2147483648 ≤ n16 ∧ n16 ≤ 2147483647 := by rw [e_n16]; exact bM_59 hB_o_22 _
        refine T_qEq ⟨by omega, by omega⟩ ⟨by decide, by decide⟩ (fun h35 => ?_) (fun h35 => ?_)
        ·
          unfold b_X12_finds_240
          unfold b_X12_finds_263
          refine T_qDv ⟨⟨by omega, by omega⟩, ⟨by decide, by decide⟩, by decide⟩ ?_
          have jd36 : jq n31 2 = n31 / 2 := jq_nn (by omega)
          refine T_qEq ⟨by omega, by omega⟩ ⟨by decide, by decide⟩ (fun h37 => ?_) (fun h37 => ?_)
          ·
            unfold b_X12_finds_283
            refine T_qEq ⟨by decide, by decide⟩ ⟨by decide, by decide⟩ (fun h38 => ?_) (fun h38 => ?_)
            ·
              unfold b_X12_finds_327
              refine T_some ?_
              show (BoxM o_22 ∧ (Fr [(61, 9999), (62, 9999)] i_o o_22) ∧ (0 ≤ (x4 + 1) ∧ (x4 + 1) ≤ x5_23) ∧ (FI o_22 x3 x5_23) ∧ (∀ k, 0 ≤ i_o.1 61 k → o_22.1 61 k = i_o.1 61 k)) ∧ (128 - (x4 + 1)).toNat < (128 - x4).toNat
              exact ⟨⟨hB_o_22, fr_o_22, (by omega), (by assumption), (by first | assumption | exact (fun k hk => rfl) | exact (fun k hk => (sn9 k (by rw [w2 k hk]; exact hk)).trans (w2 k hk)) | exact (fun k hk => by rw [sn7 k (by rw [sn9 k (by rw [w2 k hk]; exact hk), w2 k hk]; exact hk), sn9 k (by rw [w2 k hk]; exact hk)]; exact w2 k hk))⟩, by omega⟩
            ·
              refine T_qEq ⟨by omega, by omega⟩ ⟨by omega, by omega⟩ (fun h39 => ?_) (fun h39 => ?_)
              ·
                unfold b_X12_finds_327
                refine T_some ?_
                show (BoxM o_22 ∧ (Fr [(61, 9999), (62, 9999)] i_o o_22) ∧ (0 ≤ (x4 + 1) ∧ (x4 + 1) ≤ x5_23) ∧ (FI o_22 x3 x5_23) ∧ (∀ k, 0 ≤ i_o.1 61 k → o_22.1 61 k = i_o.1 61 k)) ∧ (128 - (x4 + 1)).toNat < (128 - x4).toNat
                exact ⟨⟨hB_o_22, fr_o_22, (by omega), (by assumption), (by first | assumption | exact (fun k hk => rfl) | exact (fun k hk => (sn9 k (by rw [w2 k hk]; exact hk)).trans (w2 k hk)) | exact (fun k hk => by rw [sn7 k (by rw [sn9 k (by rw [w2 k hk]; exact hk), w2 k hk]; exact hk), sn9 k (by rw [w2 k hk]; exact hk)]; exact w2 k hk))⟩, by omega⟩
              ·
                refine T_qIn ⟨by omega, by omega⟩ ?_
                refine T_qNm (fun n4 e_n4 => ?_)
                have b_n4 : -9 ≤ n4 ∧ n4 ≤ 127 := by rw [e_n4]; exact bM_61 hB_o_22 _
                refine T_qLt ⟨by omega, by omega⟩ ⟨by decide, by decide⟩ (fun h40 => ?_) (fun h40 => ?_)
                ·
                  refine T_qIn ⟨by omega, by omega⟩ ?_
                  refine T_qNm (fun o6 e_o6 => ?_)
                  have hB_o6 : BoxM o6 := by rw [e_o6]; exact Box.s1 hB_o_22 (show -9 ≤ n31 ∧ n31 ≤ 127 from ⟨by omega, by omega⟩)
                  have fr_o6 : Fr [(61, 9999), (62, 9999)] i_o o6 := by rw [e_o6]; exact Fr.s1 fr_o_22 rfl
                  have flt := FI.lt fi9 (x := (n31 + 1)) (by omega) (by omega)
                  refine T_qIn ⟨by omega, by omega⟩ ?_
                  refine T_qNm (fun o8 e_o8 => ?_)
                  have hB_o8 : BoxM o8 := by rw [e_o8]; exact Box.s1 hB_o6 (show 0 ≤ (n31 + 1) ∧ (n31 + 1) ≤ 127 from ⟨by omega, by omega⟩)
                  have fr_o8 : Fr [(61, 9999), (62, 9999)] i_o o8 := by rw [e_o8]; exact Fr.s1 fr_o6 rfl
                  have fi8 : FI o8 x3 (x5_23 + 1) := by rw [e_o8, e_o6]; exact FI_add hb9 fi9 (by omega) (by omega) (by omega) se7 (by first | exact ARC_C (c := n33) (by omega) (by omega) (by omega) | exact ARC_D (c := n33) (by omega) (by omega) (by omega) | (exfalso; omega))
                  have sn7 : ∀ k, 0 ≤ o_22.1 61 k → o8.1 61 k = o_22.1 61 k := fun k hk => by rw [e_o8, e_o6]; show (st1 o_22 61 (n31 + 1).toNat n31).1 61 k = _; rw [st1_ne (fun e => by rw [e] at hk; omega)]
                  unfold b_X12_finds_327
                  refine T_some ?_
                  show (BoxM o8 ∧ (Fr [(61, 9999), (62, 9999)] i_o o8) ∧ (0 ≤ (x4 + 1) ∧ (x4 + 1) ≤ (x5_23 + 1)) ∧ (FI o8 x3 (x5_23 + 1)) ∧ (∀ k, 0 ≤ i_o.1 61 k → o8.1 61 k = i_o.1 61 k)) ∧ (128 - (x4 + 1)).toNat < (128 - x4).toNat
                  exact ⟨⟨hB_o8, fr_o8, (by omega), (by assumption), (by first | assumption | exact (fun k hk => rfl) | exact (fun k hk => (sn9 k (by rw [w2 k hk]; exact hk)).trans (w2 k hk)) | exact (fun k hk => by rw [sn7 k (by rw [sn9 k (by rw [w2 k hk]; exact hk), w2 k hk]; exact hk), sn9 k (by rw [w2 k hk]; exact hk)]; exact w2 k hk))⟩, by omega⟩
                ·
                  unfold b_X12_finds_327
                  refine T_some ?_
                  show (BoxM o_22 ∧ (Fr [(61, 9999), (62, 9999)] i_o o_22) ∧ (0 ≤ (x4 + 1) ∧ (x4 + 1) ≤ x5_23) ∧ (FI o_22 x3 x5_23) ∧ (∀ k, 0 ≤ i_o.1 61 k → o_22.1 61 k = i_o.1 61 k)) ∧ (128 - (x4 + 1)).toNat < (128 - x4).toNat
                  exact ⟨⟨hB_o_22, fr_o_22, (by omega), (by assumption), (by first | assumption | exact (fun k hk => rfl) | exact (fun k hk => (sn9 k (by rw [w2 k hk]; exact hk)).trans (w2 k hk)) | exact (fun k hk => by rw [sn7 k (by rw [sn9 k (by rw [w2 k hk]; exact hk), w2 k hk]; exact hk), sn9 k (by rw [w2 k hk]; exact hk)]; exact w2 k hk))⟩, by omega⟩
          ·
            unfold b_X12_finds_283
            refine T_qEq ⟨by decide, by decide⟩ ⟨by decide, by decide⟩ (fun h41 => ?_) (fun h41 => ?_)
            ·
              unfold b_X12_finds_327
              refine T_some ?_
              show (BoxM o_22 ∧ (Fr [(61, 9999), (62, 9999)] i_o o_22) ∧ (0 ≤ (x4 + 1) ∧ (x4 + 1) ≤ x5_23) ∧ (FI o_22 x3 x5_23) ∧ (∀ k, 0 ≤ i_o.1 61 k → o_22.1 61 k = i_o.1 61 k)) ∧ (128 - (x4 + 1)).toNat < (128 - x4).toNat
              exact ⟨⟨hB_o_22, fr_o_22, (by omega), (by assumption), (by first | assumption | exact (fun k hk => rfl) | exact (fun k hk => (sn9 k (by rw [w2 k hk]; exact hk)).trans (w2 k hk)) | exact (fun k hk => by rw [sn7 k (by rw [sn9 k (by rw [w2 k hk]; exact hk), w2 k hk]; exact hk), sn9 k (by rw [w2 k hk]; exact hk)]; exact w2 k hk))⟩, by omega⟩
            ·
              refine T_qEq ⟨by omega, by omega⟩ ⟨by omega, by omega⟩ (fun h42 => ?_) (fun h42 => ?_)
              ·
                unfold b_X12_finds_327
                refine T_some ?_
                show (BoxM o_22 ∧ (Fr [(61, 9999), (62, 9999)] i_o o_22) ∧ (0 ≤ (x4 + 1) ∧ (x4 + 1) ≤ x5_23) ∧ (FI o_22 x3 x5_23) ∧ (∀ k, 0 ≤ i_o.1 61 k → o_22.1 61 k = i_o.1 61 k)) ∧ (128 - (x4 + 1)).toNat < (128 - x4).toNat
                exact ⟨⟨hB_o_22, fr_o_22, (by omega), (by assumption), (by first | assumption | exact (fun k hk => rfl) | exact (fun k hk => (sn9 k (by rw [w2 k hk]; exact hk)).trans (w2 k hk)) | exact (fun k hk => by rw [sn7 k (by rw [sn9 k (by rw [w2 k hk]; exact hk), w2 k hk]; exact hk), sn9 k (by rw [w2 k hk]; exact hk)]; exact w2 k hk))⟩, by omega⟩
              ·
                refine T_qIn ⟨by omega, by omega⟩ ?_
                refine T_qNm (fun n4 e_n4 => ?_)
                have b_n4 : -9 ≤ n4 ∧ n4 ≤ 127 := by rw [e_n4]; exact bM_61 hB_o_22 _
                refine T_qLt ⟨by omega, by omega⟩ ⟨by decide, by decide⟩ (fun h43 => ?_) (fun h43 => ?_)
                ·
                  refine T_qIn ⟨by omega, by omega⟩ ?_
                  refine T_qNm (fun o6 e_o6 => ?_)
                  have hB_o6 : BoxM o6 := by rw [e_o6]; exact Box.s1 hB_o_22 (show -9 ≤ n31 ∧ n31 ≤ 127 from ⟨by omega, by omega⟩)
                  have fr_o6 : Fr [(61, 9999), (62, 9999)] i_o o6 := by rw [e_o6]; exact Fr.s1 fr_o_22 rfl
                  have flt := FI.lt fi9 (x := (n31 - 1)) (by omega) (by omega)
                  refine T_qIn ⟨by omega, by omega⟩ ?_
                  refine T_qNm (fun o8 e_o8 => ?_)
                  have hB_o8 : BoxM o8 := by rw [e_o8]; exact Box.s1 hB_o6 (show 0 ≤ (n31 - 1) ∧ (n31 - 1) ≤ 127 from ⟨by omega, by omega⟩)
                  have fr_o8 : Fr [(61, 9999), (62, 9999)] i_o o8 := by rw [e_o8]; exact Fr.s1 fr_o6 rfl
                  have fi8 : FI o8 x3 (x5_23 + 1) := by rw [e_o8, e_o6]; exact FI_add hb9 fi9 (by omega) (by omega) (by omega) se7 (by first | exact ARC_C (c := n33) (by omega) (by omega) (by omega) | exact ARC_D (c := n33) (by omega) (by omega) (by omega) | (exfalso; omega))
                  have sn7 : ∀ k, 0 ≤ o_22.1 61 k → o8.1 61 k = o_22.1 61 k := fun k hk => by rw [e_o8, e_o6]; show (st1 o_22 61 (n31 - 1).toNat n31).1 61 k = _; rw [st1_ne (fun e => by rw [e] at hk; omega)]
                  unfold b_X12_finds_327
                  refine T_some ?_
                  show (BoxM o8 ∧ (Fr [(61, 9999), (62, 9999)] i_o o8) ∧ (0 ≤ (x4 + 1) ∧ (x4 + 1) ≤ (x5_23 + 1)) ∧ (FI o8 x3 (x5_23 + 1)) ∧ (∀ k, 0 ≤ i_o.1 61 k → o8.1 61 k = i_o.1 61 k)) ∧ (128 - (x4 + 1)).toNat < (128 - x4).toNat
                  exact ⟨⟨hB_o8, fr_o8, (by omega), (by assumption), (by first | assumption | exact (fun k hk => rfl) | exact (fun k hk => (sn9 k (by rw [w2 k hk]; exact hk)).trans (w2 k hk)) | exact (fun k hk => by rw [sn7 k (by rw [sn9 k (by rw [w2 k hk]; exact hk), w2 k hk]; exact hk), sn9 k (by rw [w2 k hk]; exact hk)]; exact w2 k hk))⟩, by omega⟩
                ·
                  unfold b_X12_finds_327
                  refine T_some ?_
                  show (BoxM o_22 ∧ (Fr [(61, 9999), (62, 9999)] i_o o_22) ∧ (0 ≤ (x4 + 1) ∧ (x4 + 1) ≤ x5_23) ∧ (FI o_22 x3 x5_23) ∧ (∀ k, 0 ≤ i_o.1 61 k → o_22.1 61 k = i_o.1 61 k)) ∧ (128 - (x4 + 1)).toNat < (128 - x4).toNat
                  exact ⟨⟨hB_o_22, fr_o_22, (by omega), (by assumption), (by first | assumption | exact (fun k hk => rfl) | exact (fun k hk => (sn9 k (by rw [w2 k hk]; exact hk)).trans (w2 k hk)) | exact (fun k hk => by rw [sn7 k (by rw [sn9 k (by rw [w2 k hk]; exact hk), w2 k hk]; exact hk), sn9 k (by rw [w2 k hk]; exact hk)]; exact w2 k hk))⟩, by omega⟩
        ·
          unfold b_X12_finds_263
          refine T_qDv ⟨⟨by omega, by omega⟩, ⟨by decide, by decide⟩, by decide⟩ ?_
          have jd44 : jq n31 2 = n31 / 2 := jq_nn (by omega)
          refine T_qEq ⟨by omega, by omega⟩ ⟨by decide, by decide⟩ (fun h45 => ?_) (fun h45 => ?_)
          ·
            unfold b_X12_finds_283
            refine T_qEq ⟨by decide, by decide⟩ ⟨by decide, by decide⟩ (fun h46 => ?_) (fun h46 => ?_)
            ·
              unfold b_X12_finds_327
              refine T_some ?_
              show (BoxM o_22 ∧ (Fr [(61, 9999), (62, 9999)] i_o o_22) ∧ (0 ≤ (x4 + 1) ∧ (x4 + 1) ≤ x5_23) ∧ (FI o_22 x3 x5_23) ∧ (∀ k, 0 ≤ i_o.1 61 k → o_22.1 61 k = i_o.1 61 k)) ∧ (128 - (x4 + 1)).toNat < (128 - x4).toNat
              exact ⟨⟨hB_o_22, fr_o_22, (by omega), (by assumption), (by first | assumption | exact (fun k hk => rfl) | exact (fun k hk => (sn9 k (by rw [w2 k hk]; exact hk)).trans (w2 k hk)) | exact (fun k hk => by rw [sn7 k (by rw [sn9 k (by rw [w2 k hk]; exact hk), w2 k hk]; exact hk), sn9 k (by rw [w2 k hk]; exact hk)]; exact w2 k hk))⟩, by omega⟩
            ·
              refine T_qEq ⟨by omega, by omega⟩ ⟨by omega, by omega⟩ (fun h47 => ?_) (fun h47 => ?_)
              ·
                unfold b_X12_finds_327
                refine T_some ?_
                show (BoxM o_22 ∧ (Fr [(61, 9999), (62, 9999)] i_o o_22) ∧ (0 ≤ (x4 + 1) ∧ (x4 + 1) ≤ x5_23) ∧ (FI o_22 x3 x5_23) ∧ (∀ k, 0 ≤ i_o.1 61 k → o_22.1 61 k = i_o.1 61 k)) ∧ (128 - (x4 + 1)).toNat < (128 - x4).toNat
                exact ⟨⟨hB_o_22, fr_o_22, (by omega), (by assumption), (by first | assumption | exact (fun k hk => rfl) | exact (fun k hk => (sn9 k (by rw [w2 k hk]; exact hk)).trans (w2 k hk)) | exact (fun k hk => by rw [sn7 k (by rw [sn9 k (by rw [w2 k hk]; exact hk), w2 k hk]; exact hk), sn9 k (by rw [w2 k hk]; exact hk)]; exact w2 k hk))⟩, by omega⟩
              ·
                refine T_qIn ⟨by omega, by omega⟩ ?_
                refine T_qNm (fun n4 e_n4 => ?_)
                have b_n4 : -9 ≤ n4 ∧ n4 ≤ 127 := by rw [e_n4]; exact bM_61 hB_o_22 _
                refine T_qLt ⟨by omega, by omega⟩ ⟨by decide, by decide⟩ (fun h48 => ?_) (fun h48 => ?_)
                ·
                  refine T_qIn ⟨by omega, by omega⟩ ?_
                  refine T_qNm (fun o6 e_o6 => ?_)
                  have hB_o6 : BoxM o6 := by rw [e_o6]; exact Box.s1 hB_o_22 (show -9 ≤ n31 ∧ n31 ≤ 127 from ⟨by omega, by omega⟩)
                  have fr_o6 : Fr [(61, 9999), (62, 9999)] i_o o6 := by rw [e_o6]; exact Fr.s1 fr_o_22 rfl
                  have flt := FI.lt fi9 (x := (n31 + 1)) (by omega) (by omega)
                  refine T_qIn ⟨by omega, by omega⟩ ?_
                  refine T_qNm (fun o8 e_o8 => ?_)
                  have hB_o8 : BoxM o8 := by rw [e_o8]; exact Box.s1 hB_o6 (show 0 ≤ (n31 + 1) ∧ (n31 + 1) ≤ 127 from ⟨by omega, by omega⟩)
                  have fr_o8 : Fr [(61, 9999), (62, 9999)] i_o o8 := by rw [e_o8]; exact Fr.s1 fr_o6 rfl
                  have fi8 : FI o8 x3 (x5_23 + 1) := by rw [e_o8, e_o6]; exact FI_add hb9 fi9 (by omega) (by omega) (by omega) se7 (by first | exact ARC_C (c := n33) (by omega) (by omega) (by omega) | exact ARC_D (c := n33) (by omega) (by omega) (by omega) | (exfalso; omega))
                  have sn7 : ∀ k, 0 ≤ o_22.1 61 k → o8.1 61 k = o_22.1 61 k := fun k hk => by rw [e_o8, e_o6]; show (st1 o_22 61 (n31 + 1).toNat n31).1 61 k = _; rw [st1_ne (fun e => by rw [e] at hk; omega)]
                  unfold b_X12_finds_327
                  refine T_some ?_
                  show (BoxM o8 ∧ (Fr [(61, 9999), (62, 9999)] i_o o8) ∧ (0 ≤ (x4 + 1) ∧ (x4 + 1) ≤ (x5_23 + 1)) ∧ (FI o8 x3 (x5_23 + 1)) ∧ (∀ k, 0 ≤ i_o.1 61 k → o8.1 61 k = i_o.1 61 k)) ∧ (128 - (x4 + 1)).toNat < (128 - x4).toNat
                  exact ⟨⟨hB_o8, fr_o8, (by omega), (by assumption), (by first | assumption | exact (fun k hk => rfl) | exact (fun k hk => (sn9 k (by rw [w2 k hk]; exact hk)).trans (w2 k hk)) | exact (fun k hk => by rw [sn7 k (by rw [sn9 k (by rw [w2 k hk]; exact hk), w2 k hk]; exact hk), sn9 k (by rw [w2 k hk]; exact hk)]; exact w2 k hk))⟩, by omega⟩
                ·
                  unfold b_X12_finds_327
                  refine T_some ?_
                  show (BoxM o_22 ∧ (Fr [(61, 9999), (62, 9999)] i_o o_22) ∧ (0 ≤ (x4 + 1) ∧ (x4 + 1) ≤ x5_23) ∧ (FI o_22 x3 x5_23) ∧ (∀ k, 0 ≤ i_o.1 61 k → o_22.1 61 k = i_o.1 61 k)) ∧ (128 - (x4 + 1)).toNat < (128 - x4).toNat
                  exact ⟨⟨hB_o_22, fr_o_22, (by omega), (by assumption), (by first | assumption | exact (fun k hk => rfl) | exact (fun k hk => (sn9 k (by rw [w2 k hk]; exact hk)).trans (w2 k hk)) | exact (fun k hk => by rw [sn7 k (by rw [sn9 k (by rw [w2 k hk]; exact hk), w2 k hk]; exact hk), sn9 k (by rw [w2 k hk]; exact hk)]; exact w2 k hk))⟩, by omega⟩
          ·
            unfold b_X12_finds_283
            refine T_qEq ⟨by decide, by decide⟩ ⟨by decide, by decide⟩ (fun h49 => ?_) (fun h49 => ?_)
            ·
              unfold b_X12_finds_327
              refine T_some ?_
              show (BoxM o_22 ∧ (Fr [(61, 9999), (62, 9999)] i_o o_22) ∧ (0 ≤ (x4 + 1) ∧ (x4 + 1) ≤ x5_23) ∧ (FI o_22 x3 x5_23) ∧ (∀ k, 0 ≤ i_o.1 61 k → o_22.1 61 k = i_o.1 61 k)) ∧ (128 - (x4 + 1)).toNat < (128 - x4).toNat
              exact ⟨⟨hB_o_22, fr_o_22, (by omega), (by assumption), (by first | assumption | exact (fun k hk => rfl) | exact (fun k hk => (sn9 k (by rw [w2 k hk]; exact hk)).trans (w2 k hk)) | exact (fun k hk => by rw [sn7 k (by rw [sn9 k (by rw [w2 k hk]; exact hk), w2 k hk]; exact hk), sn9 k (by rw [w2 k hk]; exact hk)]; exact w2 k hk))⟩, by omega⟩
            ·
              refine T_qEq ⟨by omega, by omega⟩ ⟨by omega, by omega⟩ (fun h50 => ?_) (fun h50 => ?_)
              ·
                unfold b_X12_finds_327
                refine T_some ?_
                show (BoxM o_22 ∧ (Fr [(61, 9999), (62, 9999)] i_o o_22) ∧ (0 ≤ (x4 + 1) ∧ (x4 + 1) ≤ x5_23) ∧ (FI o_22 x3 x5_23) ∧ (∀ k, 0 ≤ i_o.1 61 k → o_22.1 61 k = i_o.1 61 k)) ∧ (128 - (x4 + 1)).toNat < (128 - x4).toNat
                exact ⟨⟨hB_o_22, fr_o_22, (by omega), (by assumption), (by first | assumption | exact (fun k hk => rfl) | exact (fun k hk => (sn9 k (by rw [w2 k hk]; exact hk)).trans (w2 k hk)) | exact (fun k hk => by rw [sn7 k (by rw [sn9 k (by rw [w2 k hk]; exact hk), w2 k hk]; exact hk), sn9 k (by rw [w2 k hk]; exact hk)]; exact w2 k hk))⟩, by omega⟩
              ·
                refine T_qIn ⟨by omega, by omega⟩ ?_
                refine T_qNm (fun n4 e_n4 => ?_)
                have b_n4 : -9 ≤ n4 ∧ n4 ≤ 127 := by rw [e_n4]; exact bM_61 hB_o_22 _
                refine T_qLt ⟨by omega, by omega⟩ ⟨by decide, by decide⟩ (fun h51 => ?_) (fun h51 => ?_)
                ·
                  refine T_qIn ⟨by omega, by omega⟩ ?_
                  refine T_qNm (fun o6 e_o6 => ?_)
                  have hB_o6 : BoxM o6 := by rw [e_o6]; exact Box.s1 hB_o_22 (show -9 ≤ n31 ∧ n31 ≤ 127 from ⟨by omega, by omega⟩)
                  have fr_o6 : Fr [(61, 9999), (62, 9999)] i_o o6 := by rw [e_o6]; exact Fr.s1 fr_o_22 rfl
                  have flt := FI.lt fi9 (x := (n31 - 1)) (by omega) (by omega)
                  refine T_qIn ⟨by omega, by omega⟩ ?_
                  refine T_qNm (fun o8 e_o8 => ?_)
                  have hB_o8 : BoxM o8 := by rw [e_o8]; exact Box.s1 hB_o6 (show 0 ≤ (n31 - 1) ∧ (n31 - 1) ≤ 127 from ⟨by omega, by omega⟩)
                  have fr_o8 : Fr [(61, 9999), (62, 9999)] i_o o8 := by rw [e_o8]; exact Fr.s1 fr_o6 rfl
                  have fi8 : FI o8 x3 (x5_23 + 1) := by rw [e_o8, e_o6]; exact FI_add hb9 fi9 (by omega) (by omega) (by omega) se7 (by first | exact ARC_C (c := n33) (by omega) (by omega) (by omega) | exact ARC_D (c := n33) (by omega) (by omega) (by omega) | (exfalso; omega))
                  have sn7 : ∀ k, 0 ≤ o_22.1 61 k → o8.1 61 k = o_22.1 61 k := fun k hk => by rw [e_o8, e_o6]; show (st1 o_22 61 (n31 - 1).toNat n31).1 61 k = _; rw [st1_ne (fun e => by rw [e] at hk; omega)]
                  unfold b_X12_finds_327
                  refine T_some ?_
                  show (BoxM o8 ∧ (Fr [(61, 9999), (62, 9999)] i_o o8) ∧ (0 ≤ (x4 + 1) ∧ (x4 + 1) ≤ (x5_23 + 1)) ∧ (FI o8 x3 (x5_23 + 1)) ∧ (∀ k, 0 ≤ i_o.1 61 k → o8.1 61 k = i_o.1 61 k)) ∧ (128 - (x4 + 1)).toNat < (128 - x4).toNat
                  exact ⟨⟨hB_o8, fr_o8, (by omega), (by assumption), (by first | assumption | exact (fun k hk => rfl) | exact (fun k hk => (sn9 k (by rw [w2 k hk]; exact hk)).trans (w2 k hk)) | exact (fun k hk => by rw [sn7 k (by rw [sn9 k (by rw [w2 k hk]; exact hk), w2 k hk]; exact hk), sn9 k (by rw [w2 k hk]; exact hk)]; exact w2 k hk))⟩, by omega⟩
                ·
                  unfold b_X12_finds_327
                  refine T_some ?_
                  show (BoxM o_22 ∧ (Fr [(61, 9999), (62, 9999)] i_o o_22) ∧ (0 ≤ (x4 + 1) ∧ (x4 + 1) ≤ x5_23) ∧ (FI o_22 x3 x5_23) ∧ (∀ k, 0 ≤ i_o.1 61 k → o_22.1 61 k = i_o.1 61 k)) ∧ (128 - (x4 + 1)).toNat < (128 - x4).toNat
                  exact ⟨⟨hB_o_22, fr_o_22, (by omega), (by assumption), (by first | assumption | exact (fun k hk => rfl) | exact (fun k hk => (sn9 k (by rw [w2 k hk]; exact hk)).trans (w2 k hk)) | exact (fun k hk => by rw [sn7 k (by rw [sn9 k (by rw [w2 k hk]; exact hk), w2 k hk]; exact hk), sn9 k (by rw [w2 k hk]; exact hk)]; exact w2 k hk))⟩, by omega⟩
    ·
      refine T_qIn ⟨by omega, by omega⟩ ?_
      refine T_qNm (fun n12 e_n12 => ?_)
      have b_n12 : -2147483648 ≤ n12 ∧ n12 ≤ 2147483647 := by rw [e_n12]; exact bM_59 hB_o_22 _
      refine T_qLt ⟨by decide, by decide⟩ ⟨by omega, by omega⟩ (fun h52 => ?_) (fun h52 => ?_)
      ·
        unfold b_X12_finds_263
        refine T_qDv ⟨⟨by omega, by omega⟩, ⟨by decide, by decide⟩, by decide⟩ ?_
        have jd53 : jq n31 2 = n31 / 2 := jq_nn (by omega)
        refine T_qEq ⟨by omega, by omega⟩ ⟨by decide, by decide⟩ (fun h54 => ?_) (fun h54 => ?_)
        ·
          unfold b_X12_finds_283
          refine T_qEq ⟨by decide, by decide⟩ ⟨by decide, by decide⟩ (fun h55 => ?_) (fun h55 => ?_)
          ·
            unfold b_X12_finds_327
            refine T_some ?_
            show (BoxM o_22 ∧ (Fr [(61, 9999), (62, 9999)] i_o o_22) ∧ (0 ≤ (x4 + 1) ∧ (x4 + 1) ≤ x5_23) ∧ (FI o_22 x3 x5_23) ∧ (∀ k, 0 ≤ i_o.1 61 k → o_22.1 61 k = i_o.1 61 k)) ∧ (128 - (x4 + 1)).toNat < (128 - x4).toNat
            exact ⟨⟨hB_o_22, fr_o_22, (by omega), (by assumption), (by first | assumption | exact (fun k hk => rfl) | exact (fun k hk => (sn9 k (by rw [w2 k hk]; exact hk)).trans (w2 k hk)) | exact (fun k hk => by rw [sn7 k (by rw [sn9 k (by rw [w2 k hk]; exact hk), w2 k hk]; exact hk), sn9 k (by rw [w2 k hk]; exact hk)]; exact w2 k hk))⟩, by omega⟩
          ·
            refine T_qEq ⟨by omega, by omega⟩ ⟨by omega, by omega⟩ (fun h56 => ?_) (fun h56 => ?_)
            ·
              unfold b_X12_finds_327
              refine T_some ?_
              show (BoxM o_22 ∧ (Fr [(61, 9999), (62, 9999)] i_o o_22) ∧ (0 ≤ (x4 + 1) ∧ (x4 + 1) ≤ x5_23) ∧ (FI o_22 x3 x5_23) ∧ (∀ k, 0 ≤ i_o.1 61 k → o_22.1 61 k = i_o.1 61 k)) ∧ (128 - (x4 + 1)).toNat < (128 - x4).toNat
              exact ⟨⟨hB_o_22, fr_o_22, (by omega), (by assumption), (by first | assumption | exact (fun k hk => rfl) | exact (fun k hk => (sn9 k (by rw [w2 k hk]; exact hk)).trans (w2 k hk)) | exact (fun k hk => by rw [sn7 k (by rw [sn9 k (by rw [w2 k hk]; exact hk), w2 k hk]; exact hk), sn9 k (by rw [w2 k hk]; exact hk)]; exact w2 k hk))⟩, by omega⟩
            ·
              refine T_qIn ⟨by omega, by omega⟩ ?_
              refine T_qNm (fun n4 e_n4 => ?_)
              have b_n4 : -9 ≤ n4 ∧ n4 ≤ 127 := by rw [e_n4]; exact bM_61 hB_o_22 _
              refine T_qLt ⟨by omega, by omega⟩ ⟨by decide, by decide⟩ (fun h57 => ?_) (fun h57 => ?_)
              ·
                refine T_qIn ⟨by omega, by omega⟩ ?_
                refine T_qNm (fun o6 e_o6 => ?_)
                have hB_o6 : BoxM o6 := by rw [e_o6]; exact Box.s1 hB_o_22 (show -9 ≤ n31 ∧ n31 ≤ 127 from ⟨by omega, by omega⟩)
                have fr_o6 : Fr [(61, 9999), (62, 9999)] i_o o6 := by rw [e_o6]; exact Fr.s1 fr_o_22 rfl
                have flt := FI.lt fi9 (x := (n31 + 1)) (by omega) (by omega)
                refine T_qIn ⟨by omega, by omega⟩ ?_
                refine T_qNm (fun o8 e_o8 => ?_)
                have hB_o8 : BoxM o8 := by rw [e_o8]; exact Box.s1 hB_o6 (show 0 ≤ (n31 + 1) ∧ (n31 + 1) ≤ 127 from ⟨by omega, by omega⟩)
                have fr_o8 : Fr [(61, 9999), (62, 9999)] i_o o8 := by rw [e_o8]; exact Fr.s1 fr_o6 rfl
                have fi8 : FI o8 x3 (x5_23 + 1) := by rw [e_o8, e_o6]; exact FI_add hb9 fi9 (by omega) (by omega) (by omega) se7 (by first | exact ARC_C (c := n33) (by omega) (by omega) (by omega) | exact ARC_D (c := n33) (by omega) (by omega) (by omega) | (exfalso; omega))
                have sn7 : ∀ k, 0 ≤ o_22.1 61 k → o8.1 61 k = o_22.1 61 k := fun k hk => by rw [e_o8, e_o6]; show (st1 o_22 61 (n31 + 1).toNat n31).1 61 k = _; rw [st1_ne (fun e => by rw [e] at hk; omega)]
                unfold b_X12_finds_327
                refine T_some ?_
                show (BoxM o8 ∧ (Fr [(61, 9999), (62, 9999)] i_o o8) ∧ (0 ≤ (x4 + 1) ∧ (x4 + 1) ≤ (x5_23 + 1)) ∧ (FI o8 x3 (x5_23 + 1)) ∧ (∀ k, 0 ≤ i_o.1 61 k → o8.1 61 k = i_o.1 61 k)) ∧ (128 - (x4 + 1)).toNat < (128 - x4).toNat
                exact ⟨⟨hB_o8, fr_o8, (by omega), (by assumption), (by first | assumption | exact (fun k hk => rfl) | exact (fun k hk => (sn9 k (by rw [w2 k hk]; exact hk)).trans (w2 k hk)) | exact (fun k hk => by rw [sn7 k (by rw [sn9 k (by rw [w2 k hk]; exact hk), w2 k hk]; exact hk), sn9 k (by rw [w2 k hk]; exact hk)]; exact w2 k hk))⟩, by omega⟩
              ·
                unfold b_X12_finds_327
                refine T_some ?_
                show (BoxM o_22 ∧ (Fr [(61, 9999), (62, 9999)] i_o o_22) ∧ (0 ≤ (x4 + 1) ∧ (x4 + 1) ≤ x5_23) ∧ (FI o_22 x3 x5_23) ∧ (∀ k, 0 ≤ i_o.1 61 k → o_22.1 61 k = i_o.1 61 k)) ∧ (128 - (x4 + 1)).toNat < (128 - x4).toNat
                exact ⟨⟨hB_o_22, fr_o_22, (by omega), (by assumption), (by first | assumption | exact (fun k hk => rfl) | exact (fun k hk => (sn9 k (by rw [w2 k hk]; exact hk)).trans (w2 k hk)) | exact (fun k hk => by rw [sn7 k (by rw [sn9 k (by rw [w2 k hk]; exact hk), w2 k hk]; exact hk), sn9 k (by rw [w2 k hk]; exact hk)]; exact w2 k hk))⟩, by omega⟩
        ·
          unfold b_X12_finds_283
          refine T_qEq ⟨by decide, by decide⟩ ⟨by decide, by decide⟩ (fun h58 => ?_) (fun h58 => ?_)
          ·
            unfold b_X12_finds_327
            refine T_some ?_
            show (BoxM o_22 ∧ (Fr [(61, 9999), (62, 9999)] i_o o_22) ∧ (0 ≤ (x4 + 1) ∧ (x4 + 1) ≤ x5_23) ∧ (FI o_22 x3 x5_23) ∧ (∀ k, 0 ≤ i_o.1 61 k → o_22.1 61 k = i_o.1 61 k)) ∧ (128 - (x4 + 1)).toNat < (128 - x4).toNat
            exact ⟨⟨hB_o_22, fr_o_22, (by omega), (by assumption), (by first | assumption | exact (fun k hk => rfl) | exact (fun k hk => (sn9 k (by rw [w2 k hk]; exact hk)).trans (w2 k hk)) | exact (fun k hk => by rw [sn7 k (by rw [sn9 k (by rw [w2 k hk]; exact hk), w2 k hk]; exact hk), sn9 k (by rw [w2 k hk]; exact hk)]; exact w2 k hk))⟩, by omega⟩
          ·
            refine T_qEq ⟨by omega, by omega⟩ ⟨by omega, by omega⟩ (fun h59 => ?_) (fun h59 => ?_)
            ·
              unfold b_X12_finds_327
              refine T_some ?_
              show (BoxM o_22 ∧ (Fr [(61, 9999), (62, 9999)] i_o o_22) ∧ (0 ≤ (x4 + 1) ∧ (x4 + 1) ≤ x5_23) ∧ (FI o_22 x3 x5_23) ∧ (∀ k, 0 ≤ i_o.1 61 k → o_22.1 61 k = i_o.1 61 k)) ∧ (128 - (x4 + 1)).toNat < (128 - x4).toNat
              exact ⟨⟨hB_o_22, fr_o_22, (by omega), (by assumption), (by first | assumption | exact (fun k hk => rfl) | exact (fun k hk => (sn9 k (by rw [w2 k hk]; exact hk)).trans (w2 k hk)) | exact (fun k hk => by rw [sn7 k (by rw [sn9 k (by rw [w2 k hk]; exact hk), w2 k hk]; exact hk), sn9 k (by rw [w2 k hk]; exact hk)]; exact w2 k hk))⟩, by omega⟩
            ·
              refine T_qIn ⟨by omega, by omega⟩ ?_
              refine T_qNm (fun n4 e_n4 => ?_)
              have b_n4 : -9 ≤ n4 ∧ n4 ≤ 127 := by rw [e_n4]; exact bM_61 hB_o_22 _
              refine T_qLt ⟨by omega, by omega⟩ ⟨by decide, by decide⟩ (fun h60 => ?_) (fun h60 => ?_)
              ·
                refine T_qIn ⟨by omega, by omega⟩ ?_
                refine T_qNm (fun o6 e_o6 => ?_)
                have hB_o6 : BoxM o6 := by rw [e_o6]; exact Box.s1 hB_o_22 (show -9 ≤ n31 ∧ n31 ≤ 127 from ⟨by omega, by omega⟩)
                have fr_o6 : Fr [(61, 9999), (62, 9999)] i_o o6 := by rw [e_o6]; exact Fr.s1 fr_o_22 rfl
                have flt := FI.lt fi9 (x := (n31 - 1)) (by omega) (by omega)
                refine T_qIn ⟨by omega, by omega⟩ ?_
                refine T_qNm (fun o8 e_o8 => ?_)
                have hB_o8 : BoxM o8 := by rw [e_o8]; exact Box.s1 hB_o6 (show 0 ≤ (n31 - 1) ∧ (n31 - 1) ≤ 127 from ⟨by omega, by omega⟩)
                have fr_o8 : Fr [(61, 9999), (62, 9999)] i_o o8 := by rw [e_o8]; exact Fr.s1 fr_o6 rfl
                have fi8 : FI o8 x3 (x5_23 + 1) := by rw [e_o8, e_o6]; exact FI_add hb9 fi9 (by omega) (by omega) (by omega) se7 (by first | exact ARC_C (c := n33) (by omega) (by omega) (by omega) | exact ARC_D (c := n33) (by omega) (by omega) (by omega) | (exfalso; omega))
                have sn7 : ∀ k, 0 ≤ o_22.1 61 k → o8.1 61 k = o_22.1 61 k := fun k hk => by rw [e_o8, e_o6]; show (st1 o_22 61 (n31 - 1).toNat n31).1 61 k = _; rw [st1_ne (fun e => by rw [e] at hk; omega)]
                unfold b_X12_finds_327
                refine T_some ?_
                show (BoxM o8 ∧ (Fr [(61, 9999), (62, 9999)] i_o o8) ∧ (0 ≤ (x4 + 1) ∧ (x4 + 1) ≤ (x5_23 + 1)) ∧ (FI o8 x3 (x5_23 + 1)) ∧ (∀ k, 0 ≤ i_o.1 61 k → o8.1 61 k = i_o.1 61 k)) ∧ (128 - (x4 + 1)).toNat < (128 - x4).toNat
                exact ⟨⟨hB_o8, fr_o8, (by omega), (by assumption), (by first | assumption | exact (fun k hk => rfl) | exact (fun k hk => (sn9 k (by rw [w2 k hk]; exact hk)).trans (w2 k hk)) | exact (fun k hk => by rw [sn7 k (by rw [sn9 k (by rw [w2 k hk]; exact hk), w2 k hk]; exact hk), sn9 k (by rw [w2 k hk]; exact hk)]; exact w2 k hk))⟩, by omega⟩
              ·
                unfold b_X12_finds_327
                refine T_some ?_
                show (BoxM o_22 ∧ (Fr [(61, 9999), (62, 9999)] i_o o_22) ∧ (0 ≤ (x4 + 1) ∧ (x4 + 1) ≤ x5_23) ∧ (FI o_22 x3 x5_23) ∧ (∀ k, 0 ≤ i_o.1 61 k → o_22.1 61 k = i_o.1 61 k)) ∧ (128 - (x4 + 1)).toNat < (128 - x4).toNat
                exact ⟨⟨hB_o_22, fr_o_22, (by omega), (by assumption), (by first | assumption | exact (fun k hk => rfl) | exact (fun k hk => (sn9 k (by rw [w2 k hk]; exact hk)).trans (w2 k hk)) | exact (fun k hk => by rw [sn7 k (by rw [sn9 k (by rw [w2 k hk]; exact hk), w2 k hk]; exact hk), sn9 k (by rw [w2 k hk]; exact hk)]; exact w2 k hk))⟩, by omega⟩
      ·
        unfold b_X12_finds_263
        refine T_qDv ⟨⟨by omega, by omega⟩, ⟨by decide, by decide⟩, by decide⟩ ?_
        have jd61 : jq n31 2 = n31 / 2 := jq_nn (by omega)
        refine T_qEq ⟨by omega, by omega⟩ ⟨by decide, by decide⟩ (fun h62 => ?_) (fun h62 => ?_)
        ·
          unfold b_X12_finds_283
          refine T_qEq ⟨by decide, by decide⟩ ⟨by decide, by decide⟩ (fun h63 => ?_) (fun h63 => ?_)
          ·
            unfold b_X12_finds_327
            refine T_some ?_
            show (BoxM o_22 ∧ (Fr [(61, 9999), (62, 9999)] i_o o_22) ∧ (0 ≤ (x4 + 1) ∧ (x4 + 1) ≤ x5_23) ∧ (FI o_22 x3 x5_23) ∧ (∀ k, 0 ≤ i_o.1 61 k → o_22.1 61 k = i_o.1 61 k)) ∧ (128 - (x4 + 1)).toNat < (128 - x4).toNat
            exact ⟨⟨hB_o_22, fr_o_22, (by omega), (by assumption), (by first | assumption | exact (fun k hk => rfl) | exact (fun k hk => (sn9 k (by rw [w2 k hk]; exact hk)).trans (w2 k hk)) | exact (fun k hk => by rw [sn7 k (by rw [sn9 k (by rw [w2 k hk]; exact hk), w2 k hk]; exact hk), sn9 k (by rw [w2 k hk]; exact hk)]; exact w2 k hk))⟩, by omega⟩
          ·
            refine T_qEq ⟨by omega, by omega⟩ ⟨by omega, by omega⟩ (fun h64 => ?_) (fun h64 => ?_)
            ·
              unfold b_X12_finds_327
              refine T_some ?_
              show (BoxM o_22 ∧ (Fr [(61, 9999), (62, 9999)] i_o o_22) ∧ (0 ≤ (x4 + 1) ∧ (x4 + 1) ≤ x5_23) ∧ (FI o_22 x3 x5_23) ∧ (∀ k, 0 ≤ i_o.1 61 k → o_22.1 61 k = i_o.1 61 k)) ∧ (128 - (x4 + 1)).toNat < (128 - x4).toNat
              exact ⟨⟨hB_o_22, fr_o_22, (by omega), (by assumption), (by first | assumption | exact (fun k hk => rfl) | exact (fun k hk => (sn9 k (by rw [w2 k hk]; exact hk)).trans (w2 k hk)) | exact (fun k hk => by rw [sn7 k (by rw [sn9 k (by rw [w2 k hk]; exact hk), w2 k hk]; exact hk), sn9 k (by rw [w2 k hk]; exact hk)]; exact w2 k hk))⟩, by omega⟩
            ·
              refine T_qIn ⟨by omega, by omega⟩ ?_
              refine T_qNm (fun n4 e_n4 => ?_)
              have b_n4 : -9 ≤ n4 ∧ n4 ≤ 127 := by rw [e_n4]; exact bM_61 hB_o_22 _
              refine T_qLt ⟨by omega, by omega⟩ ⟨by decide, by decide⟩ (fun h65 => ?_) (fun h65 => ?_)
              ·
                refine T_qIn ⟨by omega, by omega⟩ ?_
                refine T_qNm (fun o6 e_o6 => ?_)
                have hB_o6 : BoxM o6 := by rw [e_o6]; exact Box.s1 hB_o_22 (show -9 ≤ n31 ∧ n31 ≤ 127 from ⟨by omega, by omega⟩)
                have fr_o6 : Fr [(61, 9999), (62, 9999)] i_o o6 := by rw [e_o6]; exact Fr.s1 fr_o_22 rfl
                have flt := FI.lt fi9 (x := (n31 + 1)) (by omega) (by omega)
                refine T_qIn ⟨by omega, by omega⟩ ?_
                refine T_qNm (fun o8 e_o8 => ?_)
                have hB_o8 : BoxM o8 := by rw [e_o8]; exact Box.s1 hB_o6 (show 0 ≤ (n31 + 1) ∧ (n31 + 1) ≤ 127 from ⟨by omega, by omega⟩)
                have fr_o8 : Fr [(61, 9999), (62, 9999)] i_o o8 := by rw [e_o8]; exact Fr.s1 fr_o6 rfl
                have fi8 : FI o8 x3 (x5_23 + 1) := by rw [e_o8, e_o6]; exact FI_add hb9 fi9 (by omega) (by omega) (by omega) se7 (by first | exact ARC_C (c := n33) (by omega) (by omega) (by omega) | exact ARC_D (c := n33) (by omega) (by omega) (by omega) | (exfalso; omega))
                have sn7 : ∀ k, 0 ≤ o_22.1 61 k → o8.1 61 k = o_22.1 61 k := fun k hk => by rw [e_o8, e_o6]; show (st1 o_22 61 (n31 + 1).toNat n31).1 61 k = _; rw [st1_ne (fun e => by rw [e] at hk; omega)]
                unfold b_X12_finds_327
                refine T_some ?_
                show (BoxM o8 ∧ (Fr [(61, 9999), (62, 9999)] i_o o8) ∧ (0 ≤ (x4 + 1) ∧ (x4 + 1) ≤ (x5_23 + 1)) ∧ (FI o8 x3 (x5_23 + 1)) ∧ (∀ k, 0 ≤ i_o.1 61 k → o8.1 61 k = i_o.1 61 k)) ∧ (128 - (x4 + 1)).toNat < (128 - x4).toNat
                exact ⟨⟨hB_o8, fr_o8, (by omega), (by assumption), (by first | assumption | exact (fun k hk => rfl) | exact (fun k hk => (sn9 k (by rw [w2 k hk]; exact hk)).trans (w2 k hk)) | exact (fun k hk => by rw [sn7 k (by rw [sn9 k (by rw [w2 k hk]; exact hk), w2 k hk]; exact hk), sn9 k (by rw [w2 k hk]; exact hk)]; exact w2 k hk))⟩, by omega⟩
              ·
                unfold b_X12_finds_327
                refine T_some ?_
                show (BoxM o_22 ∧ (Fr [(61, 9999), (62, 9999)] i_o o_22) ∧ (0 ≤ (x4 + 1) ∧ (x4 + 1) ≤ x5_23) ∧ (FI o_22 x3 x5_23) ∧ (∀ k, 0 ≤ i_o.1 61 k → o_22.1 61 k = i_o.1 61 k)) ∧ (128 - (x4 + 1)).toNat < (128 - x4).toNat
                exact ⟨⟨hB_o_22, fr_o_22, (by omega), (by assumption), (by first | assumption | exact (fun k hk => rfl) | exact (fun k hk => (sn9 k (by rw [w2 k hk]; exact hk)).trans (w2 k hk)) | exact (fun k hk => by rw [sn7 k (by rw [sn9 k (by rw [w2 k hk]; exact hk), w2 k hk]; exact hk), sn9 k (by rw [w2 k hk]; exact hk)]; exact w2 k hk))⟩, by omega⟩
        ·
          unfold b_X12_finds_283
          refine T_qEq ⟨by decide, by decide⟩ ⟨by decide, by decide⟩ (fun h66 => ?_) (fun h66 => ?_)
          ·
            unfold b_X12_finds_327
            refine T_some ?_
            show (BoxM o_22 ∧ (Fr [(61, 9999), (62, 9999)] i_o o_22) ∧ (0 ≤ (x4 + 1) ∧ (x4 + 1) ≤ x5_23) ∧ (FI o_22 x3 x5_23) ∧ (∀ k, 0 ≤ i_o.1 61 k → o_22.1 61 k = i_o.1 61 k)) ∧ (128 - (x4 + 1)).toNat < (128 - x4).toNat
            exact ⟨⟨hB_o_22, fr_o_22, (by omega), (by assumption), (by first | assumption | exact (fun k hk => rfl) | exact (fun k hk => (sn9 k (by rw [w2 k hk]; exact hk)).trans (w2 k hk)) | exact (fun k hk => by rw [sn7 k (by rw [sn9 k (by rw [w2 k hk]; exact hk), w2 k hk]; exact hk), sn9 k (by rw [w2 k hk]; exact hk)]; exact w2 k hk))⟩, by omega⟩
          ·
            refine T_qEq ⟨by omega, by omega⟩ ⟨by omega, by omega⟩ (fun h67 => ?_) (fun h67 => ?_)
            ·
              unfold b_X12_finds_327
              refine T_some ?_
              show (BoxM o_22 ∧ (Fr [(61, 9999), (62, 9999)] i_o o_22) ∧ (0 ≤ (x4 + 1) ∧ (x4 + 1) ≤ x5_23) ∧ (FI o_22 x3 x5_23) ∧ (∀ k, 0 ≤ i_o.1 61 k → o_22.1 61 k = i_o.1 61 k)) ∧ (128 - (x4 + 1)).toNat < (128 - x4).toNat
              exact ⟨⟨hB_o_22, fr_o_22, (by omega), (by assumption), (by first | assumption | exact (fun k hk => rfl) | exact (fun k hk => (sn9 k (by rw [w2 k hk]; exact hk)).trans (w2 k hk)) | exact (fun k hk => by rw [sn7 k (by rw [sn9 k (by rw [w2 k hk]; exact hk), w2 k hk]; exact hk), sn9 k (by rw [w2 k hk]; exact hk)]; exact w2 k hk))⟩, by omega⟩
            ·
              refine T_qIn ⟨by omega, by omega⟩ ?_
              refine T_qNm (fun n4 e_n4 => ?_)
              have b_n4 : -9 ≤ n4 ∧ n4 ≤ 127 := by rw [e_n4]; exact bM_61 hB_o_22 _
              refine T_qLt ⟨by omega, by omega⟩ ⟨by decide, by decide⟩ (fun h68 => ?_) (fun h68 => ?_)
              ·
                refine T_qIn ⟨by omega, by omega⟩ ?_
                refine T_qNm (fun o6 e_o6 => ?_)
                have hB_o6 : BoxM o6 := by rw [e_o6]; exact Box.s1 hB_o_22 (show -9 ≤ n31 ∧ n31 ≤ 127 from ⟨by omega, by omega⟩)
                have fr_o6 : Fr [(61, 9999), (62, 9999)] i_o o6 := by rw [e_o6]; exact Fr.s1 fr_o_22 rfl
                have flt := FI.lt fi9 (x := (n31 - 1)) (by omega) (by omega)
                refine T_qIn ⟨by omega, by omega⟩ ?_
                refine T_qNm (fun o8 e_o8 => ?_)
                have hB_o8 : BoxM o8 := by rw [e_o8]; exact Box.s1 hB_o6 (show 0 ≤ (n31 - 1) ∧ (n31 - 1) ≤ 127 from ⟨by omega, by omega⟩)
                have fr_o8 : Fr [(61, 9999), (62, 9999)] i_o o8 := by rw [e_o8]; exact Fr.s1 fr_o6 rfl
                have fi8 : FI o8 x3 (x5_23 + 1) := by rw [e_o8, e_o6]; exact FI_add hb9 fi9 (by omega) (by omega) (by omega) se7 (by first | exact ARC_C (c := n33) (by omega) (by omega) (by omega) | exact ARC_D (c := n33) (by omega) (by omega) (by omega) | (exfalso; omega))
                have sn7 : ∀ k, 0 ≤ o_22.1 61 k → o8.1 61 k = o_22.1 61 k := fun k hk => by rw [e_o8, e_o6]; show (st1 o_22 61 (n31 - 1).toNat n31).1 61 k = _; rw [st1_ne (fun e => by rw [e] at hk; omega)]
                unfold b_X12_finds_327
                refine T_some ?_
                show (BoxM o8 ∧ (Fr [(61, 9999), (62, 9999)] i_o o8) ∧ (0 ≤ (x4 + 1) ∧ (x4 + 1) ≤ (x5_23 + 1)) ∧ (FI o8 x3 (x5_23 + 1)) ∧ (∀ k, 0 ≤ i_o.1 61 k → o8.1 61 k = i_o.1 61 k)) ∧ (128 - (x4 + 1)).toNat < (128 - x4).toNat
                exact ⟨⟨hB_o8, fr_o8, (by omega), (by assumption), (by first | assumption | exact (fun k hk => rfl) | exact (fun k hk => (sn9 k (by rw [w2 k hk]; exact hk)).trans (w2 k hk)) | exact (fun k hk => by rw [sn7 k (by rw [sn9 k (by rw [w2 k hk]; exact hk), w2 k hk]; exact hk), sn9 k (by rw [w2 k hk]; exact hk)]; exact w2 k hk))⟩, by omega⟩
              ·
                unfold b_X12_finds_327
                refine T_some ?_
                show (BoxM o_22 ∧ (Fr [(61, 9999), (62, 9999)] i_o o_22) ∧ (0 ≤ (x4 + 1) ∧ (x4 + 1) ≤ x5_23) ∧ (FI o_22 x3 x5_23) ∧ (∀ k, 0 ≤ i_o.1 61 k → o_22.1 61 k = i_o.1 61 k)) ∧ (128 - (x4 + 1)).toNat < (128 - x4).toNat
                exact ⟨⟨hB_o_22, fr_o_22, (by omega), (by assumption), (by first | assumption | exact (fun k hk => rfl) | exact (fun k hk => (sn9 k (by rw [w2 k hk]; exact hk)).trans (w2 k hk)) | exact (fun k hk => by rw [sn7 k (by rw [sn9 k (by rw [w2 k hk]; exact hk), w2 k hk]; exact hk), sn9 k (by rw [w2 k hk]; exact hk)]; exact w2 k hk))⟩, by omega⟩
  ·
    refine T_some ?_
    show BoxM o ∧ (Fr [(61, 9999), (62, 9999)] i_o o) ∧ (∃ t, FI o x3 t) ∧ (∀ k, 0 ≤ i_o.1 61 k → o.1 61 k = i_o.1 61 k)
    exact ⟨hB_o, fr_o, (⟨_, w1⟩), (by first | assumption | exact (fun k hk => rfl) | exact (fun k hk => (sn9 k (by rw [w2 k hk]; exact hk)).trans (w2 k hk)) | exact (fun k hk => by rw [sn7 k (by rw [sn9 k (by rw [w2 k hk]; exact hk), w2 k hk]; exact hk), sn9 k (by rw [w2 k hk]; exact hk)]; exact w2 k hk))⟩
set_option maxRecDepth 20000 in
set_option maxHeartbeats 4000000 in
theorem t_X12_finds (o : OO) (x1 : Int) (x2 : Int) (x3 : Int) (hB_o : BoxM o) (k0 : 0 ≤ x1 ∧ x1 ≤ 63) (k1 : 0 ≤ x2 ∧ x2 ≤ 63) (k2 : inR x3) : T (s_X12_finds o x1 x2 x3) (fun v => BoxM v.2 ∧ (Fr [(61, 9999), (62, 9999)] o v.2) ∧ (FND v.2 x3 (2 * x1 + 1)) ∧ ((v.1 = 1 ∧ 0 ≤ v.2.1 61 (2 * x2).toNat) ∨ v.1 = 0)) := by
  have fr_o : Fr [(61, 9999), (62, 9999)] o o := Fr.rf
  unfold s_X12_finds
  unfold e_X12_finds_3
  refine T_qB (tl_X12_finds_3 x1 x2 x3 o 0 hB_o (by omega) (by first | assumption | exact FP_0 | (rw [e_o38]; exact FP_s w1 (by omega)) | (have q9 := w1; rwa [show x4 = 128 by omega] at q9))) (fun r69 hc_r69 hp70 => ?_)
  obtain ⟨o_71, q_o_71⟩ : ∃ q, q = r69 := ⟨_, rfl⟩
  subst q_o_71
  replace hp70 : BoxM o_71 ∧ (Fr [(61, 9999)] o o_71) ∧ (FP o_71 61 128 (-9)) := hp70
  have hps_hp70 := hp70
  obtain ⟨hp70_0, hp70_1, hp70_2⟩ := hps_hp70
  obtain ⟨hB_o_71, fc_o_71, hp70⟩ := hp70
  replace hp70 := hid hp70
  have fr_o_71 : Fr [(61, 9999), (62, 9999)] o o_71 := Fr.tr fr_o fc_o_71 rfl
  show T (b_X12_finds_26 o_71 x1 x2 x3) _
  have hb8 := hB_o_71
  have fp9 : FP o_71 61 128 (-9) := by assumption
  unfold b_X12_finds_26
  refine T_qNm (fun o34 e_o34 => ?_)
  have hB_o34 : BoxM o34 := by rw [e_o34]; exact Box.s1 hB_o_71 (show 0 ≤ ((2 * x1) + 1) ∧ ((2 * x1) + 1) ≤ 127 from ⟨by omega, by omega⟩)
  have fr_o34 : Fr [(61, 9999), (62, 9999)] o o34 := by rw [e_o34]; exact Fr.s1 fr_o_71 rfl
  refine T_qIn ⟨by omega, by omega⟩ ?_
  refine T_qNm (fun o36 e_o36 => ?_)
  have hB_o36 : BoxM o36 := by rw [e_o36]; exact Box.s1 hB_o34 (show -9 ≤ ((2 * x1) + 1) ∧ ((2 * x1) + 1) ≤ 127 from ⟨by omega, by omega⟩)
  have fr_o36 : Fr [(61, 9999), (62, 9999)] o o36 := by rw [e_o36]; exact Fr.s1 fr_o34 rfl
  have fi36 : FI o36 x3 1 := by rw [e_o36, e_o34]; exact FI_0 hb8 (by omega) fp9
  have rt36 : o36.1 61 (2 * x1 + 1).toNat = 2 * x1 + 1 := by rw [e_o36]; exact st1_eq
  unfold e_X12_finds_58
  refine T_qB (tl_X12_finds_58 x2 x3 o36 0 1 hB_o36 (by omega) (by omega) (by omega) (by assumption) (by first | assumption | exact (fun k hk => rfl) | exact (fun k hk => (sn9 k (by rw [w2 k hk]; exact hk)).trans (w2 k hk)) | exact (fun k hk => by rw [sn7 k (by rw [sn9 k (by rw [w2 k hk]; exact hk), w2 k hk]; exact hk), sn9 k (by rw [w2 k hk]; exact hk)]; exact w2 k hk))) (fun r72 hc_r72 hp73 => ?_)
  obtain ⟨o_74, q_o_74⟩ : ∃ q, q = r72 := ⟨_, rfl⟩
  subst q_o_74
  replace hp73 : BoxM o_74 ∧ (Fr [(61, 9999), (62, 9999)] o36 o_74) ∧ (∃ t, FI o_74 x3 t) ∧ (∀ k, 0 ≤ o36.1 61 k → o_74.1 61 k = o36.1 61 k) := hp73
  have hps_hp73 := hp73
  obtain ⟨hp73_0, hp73_1, hp73_2, hp73_3⟩ := hps_hp73
  obtain ⟨hB_o_74, fc_o_74, hp73⟩ := hp73
  replace hp73 := hid hp73
  have fr_o_74 : Fr [(61, 9999), (62, 9999)] o o_74 := Fr.tr fr_o36 fc_o_74 rfl
  show T (b_X12_finds_330 o_74 x2) _
  have fe9 : ∃ t, FI o_74 x3 t := by assumption
  have sn9 : ∀ k, 0 ≤ o36.1 61 k → o_74.1 61 k = o36.1 61 k := by assumption
  have rt9 : o_74.1 61 (2 * x1 + 1).toNat = 2 * x1 + 1 := by rw [sn9 _ (by rw [rt36]; omega)]; exact rt36
  have fn9 : FND o_74 x3 (2 * x1 + 1) := fe9.elim (fun t q => FND_of q (by omega) rt9)
  unfold b_X12_finds_330
  refine T_qIn ⟨by omega, by omega⟩ ?_
  refine T_qNm (fun n2 e_n2 => ?_)
  have b_n2 : -9 ≤ n2 ∧ n2 ≤ 127 := by rw [e_n2]; exact bM_61 hB_o_74 _
  refine T_qLt ⟨by omega, by omega⟩ ⟨by decide, by decide⟩ (fun h75 => ?_) (fun h75 => ?_)
  ·
    unfold b_X12_finds_346
    refine T_qZ (Or.inl rfl) ?_
    refine T_some ?_
    show BoxM o_74 ∧ (Fr [(61, 9999), (62, 9999)] o o_74) ∧ (FND o_74 x3 (2 * x1 + 1)) ∧ ((0 = 1 ∧ 0 ≤ o_74.1 61 (2 * x2).toNat) ∨ 0 = 0)
    exact ⟨hB_o_74, fr_o_74, (by assumption), (by omega)⟩
  ·
    unfold b_X12_finds_346
    refine T_qZ (Or.inr rfl) ?_
    refine T_some ?_
    show BoxM o_74 ∧ (Fr [(61, 9999), (62, 9999)] o o_74) ∧ (FND o_74 x3 (2 * x1 + 1)) ∧ ((1 = 1 ∧ 0 ≤ o_74.1 61 (2 * x2).toNat) ∨ 1 = 0)
    exact ⟨hB_o_74, fr_o_74, (by assumption), (by omega)⟩
set_option maxRecDepth 20000 in
set_option maxHeartbeats 4000000 in
theorem tl_X12_wayTo_2 (x0 : Int) (x1 : Int) (i_x2 : Int) (k0 : 0 ≤ x0 ∧ x0 ≤ 63) (k1 : 0 ≤ x1 ∧ x1 ≤ 63) (v0 : 0 ≤ i_x2) (v1 : NB x0 x1 i_x2) : T (loopW (fun s => l_X12_wayTo_2 x0 x1 s) i_x2) (fun r => (0 ≤ r ∧ r ≤ 3) ∧ (bsd x0 r = x1)) := by
  refine T_loop (fun s => (0 ≤ s) ∧ (NB x0 x1 s)) (fun s => (3 - s).toNat) (by exact ⟨v0, v1⟩) (fun s hs => ?_)
  obtain ⟨x2, q_x2⟩ : ∃ q, q = s := ⟨_, rfl⟩
  subst q_x2
  replace hs : (0 ≤ x2) ∧ (NB x0 x1 x2) := hs
  obtain ⟨w0, w1⟩ := hs
  have nb3 := w1.le
  show T (l_X12_wayTo_2 x0 x1 x2) _
  unfold l_X12_wayTo_2
  refine T_qB (t_X12_beside x0 x2 (by omega) (by omega)) (fun r1 hc_r1 hp1 => ?_)
  replace hp1 : (r1 = -9 ∨ (0 ≤ r1 ∧ r1 ≤ 63 ∧ (x2 = 0 ∧ r1 = x0 - 8 ∨ x2 = 1 ∧ r1 = x0 - 1 ∨ x2 = 2 ∧ r1 = x0 + 1 ∨ x2 = 3 ∧ r1 = x0 + 8))) ∧ (r1 = bsd x0 x2) := hp1
  have hps_hp1 := hp1
  obtain ⟨hp1_0, hp1_1⟩ := hps_hp1
  replace hp1 := hid hp1
  refine T_qEq ⟨by omega, by omega⟩ ⟨by omega, by omega⟩ (fun h2 => ?_) (fun h2 => ?_)
  ·
    refine T_some ?_
    show (0 ≤ x2 ∧ x2 ≤ 3) ∧ (bsd x0 x2 = x1)
    exact ⟨(by omega), (by omega)⟩
  ·
    refine T_some ?_
    show ((0 ≤ (x2 + 1)) ∧ (NB x0 x1 (x2 + 1))) ∧ (3 - (x2 + 1)).toNat < (3 - x2).toNat
    exact ⟨⟨(by omega), (by first | assumption | exact w1.s (by omega) | omega)⟩, by have := (w1.s (by omega)).le; omega⟩
set_option maxRecDepth 20000 in
set_option maxHeartbeats 4000000 in
theorem t_X12_wayTo (x0 : Int) (x1 : Int) (k0 : 0 ≤ x0 ∧ x0 ≤ 63) (k1 : 0 ≤ x1 ∧ x1 ≤ 63) (k2 : NB x0 x1 0) : T (s_X12_wayTo x0 x1) (fun v => (0 ≤ v ∧ v ≤ 3) ∧ (bsd x0 v = x1)) := by
  unfold s_X12_wayTo
  unfold e_X12_wayTo_2
  refine T_qB (tl_X12_wayTo_2 x0 x1 0 (by omega) (by omega) (by omega) (by first | assumption | exact w1.s (by omega) | omega)) (fun r3 hc_r3 hp4 => ?_)
  obtain ⟨x2_5, q_x2_5⟩ : ∃ q, q = r3 := ⟨_, rfl⟩
  subst q_x2_5
  replace hp4 : (0 ≤ x2_5 ∧ x2_5 ≤ 3) ∧ (bsd x0 x2_5 = x1) := hp4
  have hps_hp4 := hp4
  obtain ⟨hp4_0, hp4_1⟩ := hps_hp4
  replace hp4 := hid hp4
  show T (b_X12_wayTo_17 x2_5) _
  unfold b_X12_wayTo_17
  refine T_some ?_
  show (0 ≤ x2_5 ∧ x2_5 ≤ 3) ∧ (bsd x0 x2_5 = x1)
  exact ⟨(by omega), (by omega)⟩
set_option maxRecDepth 20000 in
set_option maxHeartbeats 4000000 in
theorem tl_X12_goAlong_4 (x1 : Int) (i_o : OO) (i_x3 : Int) (hB_i_o : BoxM i_o) (k0 : 0 ≤ x1 ∧ x1 ≤ 63) (k1 : FNX i_o (2 * x1 + 1)) (k2 : BD i_o 1000000) (v0 : 0 ≤ i_x3 ∧ i_x3 ≤ 127) (v1 : 0 ≤ i_o.1 61 i_x3.toNat) (v2 : GIV i_o i_o (2 * x1 + 1) i_x3 i_x3) : T (loopW (fun s => l_X12_goAlong_4 x1 s.1 s.2) (i_o, i_x3)) (fun r => BoxM r ∧ (Fr [(59, 9999), (60, 9999)] i_o r) ∧ (GEND i_o r (2 * x1 + 1) i_x3)) := by
  have fr_i_o : Fr [(59, 9999), (60, 9999)] i_o i_o := Fr.rf
  refine T_loop (fun s => BoxM s.1 ∧ (Fr [(59, 9999), (60, 9999)] i_o s.1) ∧ (0 ≤ s.2 ∧ s.2 ≤ 127) ∧ (0 ≤ i_o.1 61 s.2.toNat) ∧ (GIV i_o s.1 (2 * x1 + 1) s.2 i_x3)) (fun s => (RF i_o (2 * x1 + 1) s.2).toNat) (by exact ⟨hB_i_o, fr_i_o, v0, v1, v2⟩) (fun s hs => ?_)
  obtain ⟨o, x3⟩ := s
  replace hs : BoxM o ∧ (Fr [(59, 9999), (60, 9999)] i_o o) ∧ (0 ≤ x3 ∧ x3 ≤ 127) ∧ (0 ≤ i_o.1 61 x3.toNat) ∧ (GIV i_o o (2 * x1 + 1) x3 i_x3) := hs
  obtain ⟨hB_o, fr_o, w0, w1, w2⟩ := hs
  have f61 : o.1 61 = i_o.1 61 := funext (fun j => fr_o.1 61 j rfl)
  have hbx : ∀ k, i_o.1 61 k ≤ 127 := fun k => (bM_61 hB_i_o k).2
  have fnx : FNX i_o (2 * x1 + 1) := by assumption
  have rf0 := RF_nn fnx w0 w1
  have bdo := (w2.1 1000000 (by assumption)).up (K' := 1000128) (by omega)
  show T (l_X12_goAlong_4 x1 o x3) _
  unfold l_X12_goAlong_4
  refine T_qEq ⟨by omega, by omega⟩ ⟨by omega, by omega⟩ (fun h1 => ?_) (fun h1 => ?_)
  ·
    refine T_some ?_
    show BoxM o ∧ (Fr [(59, 9999), (60, 9999)] i_o o) ∧ (GEND i_o o (2 * x1 + 1) i_x3)
    exact ⟨hB_o, fr_o, (GEND_of fnx (by have q9 := w2; rwa [show x3 = 2 * x1 + 1 by omega] at q9))⟩
  ·
    refine T_qIn ⟨by omega, by omega⟩ ?_
    refine T_qNm (fun n4 e_n4 => ?_)
    have b_n4 : -9 ≤ n4 ∧ n4 ≤ 127 := by rw [e_n4]; exact bM_61 hB_o _
    have hy4 : n4 = i_o.1 61 x3.toNat := by rw [e_n4, f61]
    refine T_qDv ⟨⟨by omega, by omega⟩, ⟨by decide, by decide⟩, by decide⟩ ?_
    have jd2 : jq n4 2 = n4 / 2 := jq_nn (by omega)
    refine T_qNm (fun n6 e_n6 => ?_)
    refine T_qDv ⟨⟨by omega, by omega⟩, ⟨by decide, by decide⟩, by decide⟩ ?_
    have jd3 : jq x3 2 = x3 / 2 := jq_nn (by omega)
    refine T_qNm (fun n8 e_n8 => ?_)
    have nb9 : ¬ n6 = n8 → NB n6 n8 0 ∧ NB n8 n6 0 := fun e => G_nb fnx w0 w1 (by omega) hy4 (by omega) (by omega) (by omega) e
    refine T_qEq ⟨by omega, by omega⟩ ⟨by omega, by omega⟩ (fun h4 => ?_) (fun h4 => ?_)
    ·
      refine T_qIn ⟨by omega, by omega⟩ ?_
      refine T_qNm (fun n25 e_n25 => ?_)
      have b_n25 : -2147483648 ≤ n25 ∧ n25 ≤ 2147483647 := by rw [e_n25]; exact bM_59 hB_o _
      have b25 := bdo.1 n6.toNat (by omega)
      refine T_qDv ⟨⟨by omega, by omega⟩, ⟨by decide, by decide⟩, by decide⟩ ?_
      have jd5 : jq x3 2 = x3 / 2 := jq_nn (by omega)
      refine T_qEq ⟨by omega, by omega⟩ ⟨by decide, by decide⟩ (fun h6 => ?_) (fun h6 => ?_)
      ·
        unfold b_X12_goAlong_59
        refine T_qIn ⟨by omega, by omega⟩ ?_
        refine T_qNm (fun o2 e_o2 => ?_)
        have hB_o2 : BoxM o2 := by rw [e_o2]; exact Box.s1 hB_o (show -2147483648 ≤ (n25 + 1) ∧ (n25 + 1) ≤ 2147483647 from ⟨by omega, by omega⟩)
        have fr_o2 : Fr [(59, 9999), (60, 9999)] i_o o2 := by rw [e_o2]; exact Fr.s1 fr_o rfl
        obtain ⟨gia, gib, gic, gid⟩ : GIV i_o o2 (2 * x1 + 1) n4 i_x3 ∧ 0 ≤ i_o.1 61 n4.toNat ∧ RF i_o (2 * x1 + 1) n4 < RF i_o (2 * x1 + 1) x3 ∧ 0 ≤ RF i_o (2 * x1 + 1) n4 := by rw [e_o2, e_n25]; first | exact G_up hbx f61 fnx w0 w1 (by omega) hy4 (by omega) w2 (by omega) (by omega) (by omega) | exact G_down hbx f61 fnx w0 w1 (by omega) hy4 (by omega) w2 (by omega) (by omega) (by omega)
        unfold b_X12_goAlong_117
        refine T_some ?_
        show (BoxM o2 ∧ (Fr [(59, 9999), (60, 9999)] i_o o2) ∧ (0 ≤ n4 ∧ n4 ≤ 127) ∧ (0 ≤ i_o.1 61 n4.toNat) ∧ (GIV i_o o2 (2 * x1 + 1) n4 i_x3)) ∧ (RF i_o (2 * x1 + 1) n4).toNat < (RF i_o (2 * x1 + 1) x3).toNat
        exact ⟨⟨hB_o2, fr_o2, (by omega), (by omega), (by first | assumption | exact GIV_0 (by assumption) (by omega) (by rw [e_n27]; assumption))⟩, by omega⟩
      ·
        unfold b_X12_goAlong_59
        refine T_qIn ⟨by omega, by omega⟩ ?_
        refine T_qNm (fun o2 e_o2 => ?_)
        have hB_o2 : BoxM o2 := by rw [e_o2]; exact Box.s1 hB_o (show -2147483648 ≤ (n25 + (-1)) ∧ (n25 + (-1)) ≤ 2147483647 from ⟨by omega, by omega⟩)
        have fr_o2 : Fr [(59, 9999), (60, 9999)] i_o o2 := by rw [e_o2]; exact Fr.s1 fr_o rfl
        obtain ⟨gia, gib, gic, gid⟩ : GIV i_o o2 (2 * x1 + 1) n4 i_x3 ∧ 0 ≤ i_o.1 61 n4.toNat ∧ RF i_o (2 * x1 + 1) n4 < RF i_o (2 * x1 + 1) x3 ∧ 0 ≤ RF i_o (2 * x1 + 1) n4 := by rw [e_o2, e_n25]; first | exact G_up hbx f61 fnx w0 w1 (by omega) hy4 (by omega) w2 (by omega) (by omega) (by omega) | exact G_down hbx f61 fnx w0 w1 (by omega) hy4 (by omega) w2 (by omega) (by omega) (by omega)
        unfold b_X12_goAlong_117
        refine T_some ?_
        show (BoxM o2 ∧ (Fr [(59, 9999), (60, 9999)] i_o o2) ∧ (0 ≤ n4 ∧ n4 ≤ 127) ∧ (0 ≤ i_o.1 61 n4.toNat) ∧ (GIV i_o o2 (2 * x1 + 1) n4 i_x3)) ∧ (RF i_o (2 * x1 + 1) n4).toNat < (RF i_o (2 * x1 + 1) x3).toNat
        exact ⟨⟨hB_o2, fr_o2, (by omega), (by omega), (by first | assumption | exact GIV_0 (by assumption) (by omega) (by rw [e_n27]; assumption))⟩, by omega⟩
    ·
      refine T_qDv ⟨⟨by omega, by omega⟩, ⟨by decide, by decide⟩, by decide⟩ ?_
      have jd7 : jq n4 2 = n4 / 2 := jq_nn (by omega)
      refine T_qEq ⟨by omega, by omega⟩ ⟨by decide, by decide⟩ (fun h8 => ?_) (fun h8 => ?_)
      ·
        refine T_qB (t_X12_wayTo n6 n8 (by omega) (by omega) ((nb9 (by omega)).1)) (fun r17 hc_r17 hp9 => ?_)
        replace hp9 : (0 ≤ r17 ∧ r17 ≤ 3) ∧ (bsd n6 r17 = n8) := hp9
        have hps_hp9 := hp9
        obtain ⟨hp9_0, hp9_1⟩ := hps_hp9
        replace hp9 := hid hp9
        have hw17 := hp9_1
        refine T_qNm (fun n19 e_n19 => ?_)
        refine T_qIn ⟨by omega, by omega⟩ ?_
        refine T_qNm (fun n21 e_n21 => ?_)
        have b_n21 : -2147483648 ≤ n21 ∧ n21 ≤ 2147483647 := by rw [e_n21]; exact bM_60 hB_o _
        have b21 := bdo.2 n19.toNat (by omega)
        refine T_qIn ⟨by omega, by omega⟩ ?_
        refine T_qNm (fun o23 e_o23 => ?_)
        have hB_o23 : BoxM o23 := by rw [e_o23]; exact Box.s1 hB_o (show -2147483648 ≤ (n21 + 1) ∧ (n21 + 1) ≤ 2147483647 from ⟨by omega, by omega⟩)
        have fr_o23 : Fr [(59, 9999), (60, 9999)] i_o o23 := by rw [e_o23]; exact Fr.s1 fr_o rfl
        obtain ⟨gia, gib, gic, gid⟩ : GIV i_o o23 (2 * x1 + 1) n4 i_x3 ∧ 0 ≤ i_o.1 61 n4.toNat ∧ RF i_o (2 * x1 + 1) n4 < RF i_o (2 * x1 + 1) x3 ∧ 0 ≤ RF i_o (2 * x1 + 1) n4 := by rw [e_o23, e_n21]; exact G_out hbx f61 fnx w0 w1 (by omega) hy4 (by omega) w2 (by omega) (by omega) (by omega) (by omega) (by omega) hw17 e_n19
        unfold b_X12_goAlong_117
        refine T_some ?_
        show (BoxM o23 ∧ (Fr [(59, 9999), (60, 9999)] i_o o23) ∧ (0 ≤ n4 ∧ n4 ≤ 127) ∧ (0 ≤ i_o.1 61 n4.toNat) ∧ (GIV i_o o23 (2 * x1 + 1) n4 i_x3)) ∧ (RF i_o (2 * x1 + 1) n4).toNat < (RF i_o (2 * x1 + 1) x3).toNat
        exact ⟨⟨hB_o23, fr_o23, (by omega), (by omega), (by first | assumption | exact GIV_0 (by assumption) (by omega) (by rw [e_n27]; assumption))⟩, by omega⟩
      ·
        refine T_qB (t_X12_wayTo n8 n6 (by omega) (by omega) ((nb9 (by omega)).2)) (fun r10 hc_r10 hp10 => ?_)
        replace hp10 : (0 ≤ r10 ∧ r10 ≤ 3) ∧ (bsd n8 r10 = n6) := hp10
        have hps_hp10 := hp10
        obtain ⟨hp10_0, hp10_1⟩ := hps_hp10
        replace hp10 := hid hp10
        have hw10 := hp10_1
        refine T_qNm (fun n12 e_n12 => ?_)
        refine T_qIn ⟨by omega, by omega⟩ ?_
        refine T_qNm (fun n14 e_n14 => ?_)
        have b_n14 : -2147483648 ≤ n14 ∧ n14 ≤ 2147483647 := by rw [e_n14]; exact bM_60 hB_o _
        have b14 := bdo.2 n12.toNat (by omega)
        refine T_qIn ⟨by omega, by omega⟩ ?_
        refine T_qNm (fun o16 e_o16 => ?_)
        have hB_o16 : BoxM o16 := by rw [e_o16]; exact Box.s1 hB_o (show -2147483648 ≤ (n14 - 1) ∧ (n14 - 1) ≤ 2147483647 from ⟨by omega, by omega⟩)
        have fr_o16 : Fr [(59, 9999), (60, 9999)] i_o o16 := by rw [e_o16]; exact Fr.s1 fr_o rfl
        obtain ⟨gia, gib, gic, gid⟩ : GIV i_o o16 (2 * x1 + 1) n4 i_x3 ∧ 0 ≤ i_o.1 61 n4.toNat ∧ RF i_o (2 * x1 + 1) n4 < RF i_o (2 * x1 + 1) x3 ∧ 0 ≤ RF i_o (2 * x1 + 1) n4 := by rw [e_o16, e_n14]; exact G_back hbx f61 fnx w0 w1 (by omega) hy4 (by omega) w2 (by omega) (by omega) (by omega) (by omega) (by omega) hw10 e_n12
        unfold b_X12_goAlong_117
        refine T_some ?_
        show (BoxM o16 ∧ (Fr [(59, 9999), (60, 9999)] i_o o16) ∧ (0 ≤ n4 ∧ n4 ≤ 127) ∧ (0 ≤ i_o.1 61 n4.toNat) ∧ (GIV i_o o16 (2 * x1 + 1) n4 i_x3)) ∧ (RF i_o (2 * x1 + 1) n4).toNat < (RF i_o (2 * x1 + 1) x3).toNat
        exact ⟨⟨hB_o16, fr_o16, (by omega), (by omega), (by first | assumption | exact GIV_0 (by assumption) (by omega) (by rw [e_n27]; assumption))⟩, by omega⟩
set_option maxRecDepth 20000 in
set_option maxHeartbeats 4000000 in
theorem t_X12_goAlong (o : OO) (x1 : Int) (x2 : Int) (hB_o : BoxM o) (k0 : 0 ≤ x1 ∧ x1 ≤ 63) (k1 : 0 ≤ x2 ∧ x2 ≤ 63) (k2 : FNX o (2 * x1 + 1)) (k3 : BD o 1000000) (k4 : 0 ≤ o.1 61 (2 * x2).toNat) : T (s_X12_goAlong o x1 x2) (fun v => BoxM v ∧ (Fr [(59, 9999), (60, 9999)] o v) ∧ (GEND o v (2 * x1 + 1) (2 * x2))) := by
  have fr_o : Fr [(59, 9999), (60, 9999)] o o := Fr.rf
  unfold s_X12_goAlong
  refine T_qNm (fun n27 e_n27 => ?_)
  unfold e_X12_goAlong_4
  refine T_qB (tl_X12_goAlong_4 x1 o n27 hB_o (by omega) (by assumption) (by assumption) (by omega) (by rw [e_n27]; assumption) (by first | assumption | exact GIV_0 (by assumption) (by omega) (by rw [e_n27]; assumption))) (fun r11 hc_r11 hp12 => ?_)
  obtain ⟨o_13, q_o_13⟩ : ∃ q, q = r11 := ⟨_, rfl⟩
  subst q_o_13
  replace hp12 : BoxM o_13 ∧ (Fr [(59, 9999), (60, 9999)] o o_13) ∧ (GEND o o_13 (2 * x1 + 1) n27) := hp12
  have hps_hp12 := hp12
  obtain ⟨hp12_0, hp12_1, hp12_2⟩ := hps_hp12
  obtain ⟨hB_o_13, fc_o_13, hp12⟩ := hp12
  replace hp12 := hid hp12
  have fr_o_13 : Fr [(59, 9999), (60, 9999)] o o_13 := Fr.tr fr_o fc_o_13 rfl
  show T (b_X12_goAlong_123 o_13) _
  unfold b_X12_goAlong_123
  refine T_some ?_
  show BoxM o_13 ∧ (Fr [(59, 9999), (60, 9999)] o o_13) ∧ (GEND o o_13 (2 * x1 + 1) (2 * x2))
  exact ⟨hB_o_13, fr_o_13, (by rw [← e_n27]; assumption)⟩
