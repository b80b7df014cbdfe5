set_option maxRecDepth 20000 in
set_option maxHeartbeats 4000000 in
theorem t_X1_assess (o : OO) (x1 : Int) (x2 : Int) (x3 : Int) (hB_o : BoxC o) (k0 : 0 ≤ x1 ∧ x1 ≤ 31) (k1 : 0 ≤ x2 ∧ x2 ≤ 100000) (k2 : 0 ≤ x3 ∧ x3 ≤ 999) (k3 : o.1 10 13 ≤ 99) : T (s_X1_assess o x1 x2 x3) (fun v => BoxC v ∧ (Fr [(10, 13), (16, 9999), (19, 9999), (20, 9999), (21, 9999)] o v) ∧ (v.1 10 13 = o.1 10 13 + 1) ∧ (HTC o → HTC v) ∧ (v.1 19 (o.1 10 13).toNat = x1) ∧ (∀ k : Nat, (k : Int) < o.1 10 13 → v.1 19 k = o.1 19 k)) := by
  have fr_o : Fr [(10, 13), (16, 9999), (19, 9999), (20, 9999), (21, 9999)] o o := Fr.rf
  have g10_13_o := bC_10_13 hB_o
  unfold s_X1_assess
  refine T_qIn ⟨by omega, by omega⟩ ?_
  refine T_qNm (fun o2 e_o2 => ?_)
  have hB_o2 : BoxC o2 := by rw [e_o2]; exact Box.s1 hB_o (show 0 ≤ x2 ∧ x2 ≤ 100000 from ⟨by omega, by omega⟩)
  have fr_o2 : Fr [(10, 13), (16, 9999), (19, 9999), (20, 9999), (21, 9999)] o o2 := by rw [e_o2]; exact Fr.s1 fr_o rfl
  have g10_13_o2 : o2.1 10 13 = o.1 10 13 := by rw [e_o2]; rfl
  refine T_qIn ⟨by omega, by omega⟩ ?_
  refine T_qNm (fun o4 e_o4 => ?_)
  have hB_o4 : BoxC o4 := by rw [e_o4]; exact Box.s1 hB_o2 (show 0 ≤ x1 ∧ x1 ≤ 31 from ⟨by omega, by omega⟩)
  have fr_o4 : Fr [(10, 13), (16, 9999), (19, 9999), (20, 9999), (21, 9999)] o o4 := by rw [e_o4]; exact Fr.s1 fr_o2 rfl
  have g10_13_o4 : o4.1 10 13 = o2.1 10 13 := by rw [e_o4]; rfl
  refine T_qIn ⟨by omega, by omega⟩ ?_
  refine T_qNm (fun o6 e_o6 => ?_)
  have hB_o6 : BoxC o6 := by rw [e_o6]; exact Box.s1 hB_o4 (show 0 ≤ x3 ∧ x3 ≤ 999 from ⟨by omega, by omega⟩)
  have fr_o6 : Fr [(10, 13), (16, 9999), (19, 9999), (20, 9999), (21, 9999)] o o6 := by rw [e_o6]; exact Fr.s1 fr_o4 rfl
  have g10_13_o6 : o6.1 10 13 = o4.1 10 13 := by rw [e_o6]; rfl
  refine T_qIn ⟨by omega, by omega⟩ ?_
  refine T_qNm (fun o8 e_o8 => ?_)
  have hB_o8 : BoxC o8 := by rw [e_o8]; exact Box.s1 hB_o6 (show 0 ≤ x2 ∧ x2 ≤ 100000 from ⟨by omega, by omega⟩)
  have fr_o8 : Fr [(10, 13), (16, 9999), (19, 9999), (20, 9999), (21, 9999)] o o8 := by rw [e_o8]; exact Fr.s1 fr_o6 rfl
  have g10_13_o8 : o8.1 10 13 = o6.1 10 13 := by rw [e_o8]; rfl
  refine T_qNm (fun o9 e_o9 => ?_)
  have hB_o9 : BoxC o9 := by rw [e_o9]; exact Box.s1 hB_o8 (show 0 ≤ ((o8.1 10 13) + 1) ∧ ((o8.1 10 13) + 1) ≤ 100 from ⟨by omega, by omega⟩)
  have fr_o9 : Fr [(10, 13), (16, 9999), (19, 9999), (20, 9999), (21, 9999)] o o9 := by rw [e_o9]; exact Fr.s1 fr_o8 rfl
  have g10_13_o9 : o9.1 10 13 = ((o8.1 10 13) + 1) := by rw [e_o9]; rfl
  refine T_some ?_
  show BoxC o9 ∧ (Fr [(10, 13), (16, 9999), (19, 9999), (20, 9999), (21, 9999)] o o9) ∧ (o9.1 10 13 = o.1 10 13 + 1) ∧ (HTC o → HTC o9) ∧ (o9.1 19 (o.1 10 13).toNat = x1) ∧ (∀ k : Nat, (k : Int) < o.1 10 13 → o9.1 19 k = o.1 19 k)
  exact ⟨hB_o9, fr_o9, (by omega), (fun hh => HTC_tell hh (by rw [e_o9, e_o8, e_o6, e_o4, e_o2]; rfl) (by rw [e_o9, e_o8, e_o6, e_o4, e_o2]; rfl) (fun k hk => by rw [e_o9, e_o8, e_o6, e_o4, e_o2]; show (if k = (o.1 10 13).toNat then x1 else o.1 19 k) = o.1 19 k; rw [if_neg (by omega)])), (by rw [e_o9, e_o8, e_o6, e_o4, e_o2]; show (if (o.1 10 13).toNat = (o.1 10 13).toNat then x1 else o.1 19 (o.1 10 13).toNat) = x1; rw [if_pos rfl]), (fun k hk => by rw [e_o9, e_o8, e_o6, e_o4, e_o2]; show (if k = (o.1 10 13).toNat then x1 else o.1 19 k) = o.1 19 k; rw [if_neg (by omega)])⟩
set_option maxRecDepth 20000 in
set_option maxHeartbeats 4000000 in
theorem t_X1_add (o : OO) (x1 : Int) (x2 : Int) (x3 : Int) (x4 : Int) (x5 : Int) (hB_o : BoxC o) (k0 : 0 ≤ x1 ∧ x1 ≤ 63) (k1 : 0 ≤ x2 ∧ x2 ≤ 2) (k2 : 0 ≤ x3 ∧ x3 ≤ 20) (k3 : 0 ≤ x4 ∧ x4 ≤ 100000) (k4 : 0 ≤ x5 ∧ x5 ≤ 999) (k5 : o.1 10 12 ≤ 31) (k6 : o.1 10 13 ≤ 99) : T (s_X1_add o x1 x2 x3 x4 x5) (fun v => BoxC v.2 ∧ (Fr [(10, 12), (10, 13), (11, 9999), (12, 9999), (13, 9999), (15, 9999), (16, 9999), (18, 9999), (19, 9999), (20, 9999), (21, 9999)] o v.2) ∧ (v.1 = o.1 10 12) ∧ (HTC o → HTC v.2) ∧ (OC o → o.1 18 x1.toNat = -9 → OC v.2)) := by
  have fr_o : Fr [(10, 12), (10, 13), (11, 9999), (12, 9999), (13, 9999), (15, 9999), (16, 9999), (18, 9999), (19, 9999), (20, 9999), (21, 9999)] o o := Fr.rf
  have g10_12_o := bC_10_12 hB_o
  have g10_13_o := bC_10_13 hB_o
  unfold s_X1_add
  refine T_qNm (fun o1 e_o1 => ?_)
  have hB_o1 : BoxC o1 := by rw [e_o1]; exact Box.s1 hB_o (show 0 ≤ ((o.1 10 12) + 1) ∧ ((o.1 10 12) + 1) ≤ 32 from ⟨by omega, by omega⟩)
  have fr_o1 : Fr [(10, 12), (10, 13), (11, 9999), (12, 9999), (13, 9999), (15, 9999), (16, 9999), (18, 9999), (19, 9999), (20, 9999), (21, 9999)] o o1 := by rw [e_o1]; exact Fr.s1 fr_o rfl
  have g10_12_o1 : o1.1 10 12 = ((o.1 10 12) + 1) := by rw [e_o1]; rfl
  have g10_13_o1 : o1.1 10 13 = o.1 10 13 := by rw [e_o1]; rfl
  refine T_qIn ⟨by omega, by omega⟩ ?_
  refine T_qNm (fun o3 e_o3 => ?_)
  have hB_o3 : BoxC o3 := by rw [e_o3]; exact Box.s1 hB_o1 (show 0 ≤ x1 ∧ x1 ≤ 63 from ⟨by omega, by omega⟩)
  have fr_o3 : Fr [(10, 12), (10, 13), (11, 9999), (12, 9999), (13, 9999), (15, 9999), (16, 9999), (18, 9999), (19, 9999), (20, 9999), (21, 9999)] o o3 := by rw [e_o3]; exact Fr.s1 fr_o1 rfl
  have g10_12_o3 : o3.1 10 12 = o1.1 10 12 := by rw [e_o3]; rfl
  have g10_13_o3 : o3.1 10 13 = o1.1 10 13 := by rw [e_o3]; rfl
  refine T_qIn ⟨by omega, by omega⟩ ?_
  refine T_qNm (fun o5 e_o5 => ?_)
  have hB_o5 : BoxC o5 := by rw [e_o5]; exact Box.s1 hB_o3 (show 0 ≤ x2 ∧ x2 ≤ 2 from ⟨by omega, by omega⟩)
  have fr_o5 : Fr [(10, 12), (10, 13), (11, 9999), (12, 9999), (13, 9999), (15, 9999), (16, 9999), (18, 9999), (19, 9999), (20, 9999), (21, 9999)] o o5 := by rw [e_o5]; exact Fr.s1 fr_o3 rfl
  have g10_12_o5 : o5.1 10 12 = o3.1 10 12 := by rw [e_o5]; rfl
  have g10_13_o5 : o5.1 10 13 = o3.1 10 13 := by rw [e_o5]; rfl
  refine T_qIn ⟨by omega, by omega⟩ ?_
  refine T_qNm (fun o7 e_o7 => ?_)
  have hB_o7 : BoxC o7 := by rw [e_o7]; exact Box.s1 hB_o5 (show 0 ≤ x3 ∧ x3 ≤ 20 from ⟨by omega, by omega⟩)
  have fr_o7 : Fr [(10, 12), (10, 13), (11, 9999), (12, 9999), (13, 9999), (15, 9999), (16, 9999), (18, 9999), (19, 9999), (20, 9999), (21, 9999)] o o7 := by rw [e_o7]; exact Fr.s1 fr_o5 rfl
  have g10_12_o7 : o7.1 10 12 = o5.1 10 12 := by rw [e_o7]; rfl
  have g10_13_o7 : o7.1 10 13 = o5.1 10 13 := by rw [e_o7]; rfl
  refine T_qIn ⟨by omega, by omega⟩ ?_
  refine T_qNm (fun o9 e_o9 => ?_)
  have hB_o9 : BoxC o9 := by rw [e_o9]; exact Box.s1 hB_o7 (show -9 ≤ (-9) ∧ (-9) ≤ 39 from ⟨by omega, by omega⟩)
  have fr_o9 : Fr [(10, 12), (10, 13), (11, 9999), (12, 9999), (13, 9999), (15, 9999), (16, 9999), (18, 9999), (19, 9999), (20, 9999), (21, 9999)] o o9 := by rw [e_o9]; exact Fr.s1 fr_o7 rfl
  have g10_12_o9 : o9.1 10 12 = o7.1 10 12 := by rw [e_o9]; rfl
  have g10_13_o9 : o9.1 10 13 = o7.1 10 13 := by rw [e_o9]; rfl
  refine T_qIn ⟨by omega, by omega⟩ ?_
  refine T_qNm (fun o11 e_o11 => ?_)
  have hB_o11 : BoxC o11 := by rw [e_o11]; exact Box.s1 hB_o9 (show (o.1 10 12) = -9 ∨ (0 ≤ (o.1 10 12) ∧ (o.1 10 12) ≤ 31) from (by omega))
  have fr_o11 : Fr [(10, 12), (10, 13), (11, 9999), (12, 9999), (13, 9999), (15, 9999), (16, 9999), (18, 9999), (19, 9999), (20, 9999), (21, 9999)] o o11 := by rw [e_o11]; exact Fr.s1 fr_o9 rfl
  have g10_12_o11 : o11.1 10 12 = o9.1 10 12 := by rw [e_o11]; rfl
  have g10_13_o11 : o11.1 10 13 = o9.1 10 13 := by rw [e_o11]; rfl
  refine T_qB (t_X1_assess o11 (o.1 10 12) x4 x5 hB_o11 (by omega) (by omega) (by omega) (by omega)) (fun o14 hc_o14 hp1 => ?_)
  replace hp1 : BoxC o14 ∧ (Fr [(10, 13), (16, 9999), (19, 9999), (20, 9999), (21, 9999)] o11 o14) ∧ (o14.1 10 13 = o11.1 10 13 + 1) ∧ (HTC o11 → HTC o14) ∧ (o14.1 19 (o11.1 10 13).toNat = (o.1 10 12)) ∧ (∀ k : Nat, (k : Int) < o11.1 10 13 → o14.1 19 k = o11.1 19 k) := hp1
  obtain ⟨hB_o14, fc_o14, hp1⟩ := hp1
  have fr_o14 : Fr [(10, 12), (10, 13), (11, 9999), (12, 9999), (13, 9999), (15, 9999), (16, 9999), (18, 9999), (19, 9999), (20, 9999), (21, 9999)] o o14 := Fr.tr fr_o11 fc_o14 rfl
  have g10_12_o14 : o14.1 10 12 = o11.1 10 12 := fc_o14.1 10 12 rfl
  have g10_13_o14 := bC_10_13 hB_o14
  have as1 := hp1.1
  have as3 := hp1.2.2.1
  have as4 := hp1.2.2.2
  have t11 : o11.1 10 13 = o.1 10 13 := by rw [e_o11, e_o9, e_o7, e_o5, e_o3, e_o1]; rfl
  have v11 : ∀ k, o11.1 19 k = o.1 19 k := fun k => by rw [e_o11, e_o9, e_o7, e_o5, e_o3, e_o1]; rfl
  have n14 : o14.1 10 12 = o.1 10 12 + 1 := by rw [fc_o14.1 10 12 rfl, e_o11, e_o9, e_o7, e_o5, e_o3, e_o1]; rfl
  have ht14 : HTC o → HTC o14 := fun h => HTC_add hB_o h n14 (by rw [as1, t11]) (fun k hk => by rw [as4 k (by rw [t11]; exact hk), v11]) (by have q9 := as3; rw [t11] at q9; exact q9)
  have oc14 : OC o → o.1 18 x1.toNat = -9 → OC o14 := fun h hc => OC_add hB_o (c := x1) (by omega) h hc n14 (fun k => by rw [fc_o14.1 17 k rfl, e_o11, e_o9, e_o7, e_o5, e_o3, e_o1]; rfl) (fun k => by rw [fc_o14.1 11 k rfl, e_o11, e_o9, e_o7, e_o5, e_o3, e_o1]; rfl) (fun k => by rw [fc_o14.1 18 k rfl, e_o11, e_o9, e_o7, e_o5, e_o3, e_o1]; rfl)
  refine T_some ?_
  show BoxC o14 ∧ (Fr [(10, 12), (10, 13), (11, 9999), (12, 9999), (13, 9999), (15, 9999), (16, 9999), (18, 9999), (19, 9999), (20, 9999), (21, 9999)] o o14) ∧ ((o.1 10 12) = o.1 10 12) ∧ (HTC o → HTC o14) ∧ (OC o → o.1 18 x1.toNat = -9 → OC o14)
  exact ⟨hB_o14, fr_o14, (by omega), (by assumption), (by assumption)⟩
set_option maxRecDepth 20000 in
set_option maxHeartbeats 4000000 in
theorem t_X11_building (o : OO) (x1 : Int) (x2 : Int) (x3 : Int) (x4 : Int) (hB_o : BoxC o) (k0 : inR x1) (k1 : inR x2) (k2 : inR x3) (k3 : inR x4) : T (s_X11_building o x1 x2 x3 x4) (fun v => BoxC v.2 ∧ (Fr [(10, 12), (10, 13), (11, 9999), (12, 9999), (13, 9999), (15, 9999), (16, 9999), (18, 9999), (19, 9999), (20, 9999), (21, 9999)] o v.2) ∧ (inR v.1) ∧ (HTC o → HTC v.2) ∧ (OC o → OC v.2)) := by
  have fr_o : Fr [(10, 12), (10, 13), (11, 9999), (12, 9999), (13, 9999), (15, 9999), (16, 9999), (18, 9999), (19, 9999), (20, 9999), (21, 9999)] o o := Fr.rf
  have g0_13_o := bC_0_13 hB_o
  have g10_12_o := bC_10_12 hB_o
  have g10_13_o := bC_10_13 hB_o
  unfold s_X11_building
  refine T_qB (t_X3_isCell x1 (by omega)) (fun r1 hc_r1 hp1 => ?_)
  replace hp1 : ((r1 = 1 ∧ (0 ≤ x1 ∧ x1 < 64)) ∨ (r1 = 0 ∧ ¬ (0 ≤ x1 ∧ x1 < 64))) := hp1
  refine T_qEq ⟨by omega, by omega⟩ ⟨by decide, by decide⟩ (fun h2 => ?_) (fun h2 => ?_)
  ·
    unfold b_X11_building_32
    refine T_some ?_
    show BoxC o ∧ (Fr [(10, 12), (10, 13), (11, 9999), (12, 9999), (13, 9999), (15, 9999), (16, 9999), (18, 9999), (19, 9999), (20, 9999), (21, 9999)] o o) ∧ (inR (-1)) ∧ (HTC o → HTC o) ∧ (OC o → OC o)
    exact ⟨hB_o, fr_o, (by omega), (by first | exact (fun h => h) | assumption), (by first | exact (fun h => h) | assumption)⟩
  ·
    refine T_qB (t_X1_isUse x2 (by omega)) (fun r3 hc_r3 hp3 => ?_)
    replace hp3 : ((r3 = 1 ∧ (0 ≤ x2 ∧ x2 ≤ 2)) ∨ (r3 = 0 ∧ ¬ (0 ≤ x2 ∧ x2 ≤ 2))) := hp3
    refine T_qEq ⟨by omega, by omega⟩ ⟨by decide, by decide⟩ (fun h4 => ?_) (fun h4 => ?_)
    ·
      unfold b_X11_building_32
      refine T_some ?_
      show BoxC o ∧ (Fr [(10, 12), (10, 13), (11, 9999), (12, 9999), (13, 9999), (15, 9999), (16, 9999), (18, 9999), (19, 9999), (20, 9999), (21, 9999)] o o) ∧ (inR (-1)) ∧ (HTC o → HTC o) ∧ (OC o → OC o)
      exact ⟨hB_o, fr_o, (by omega), (by first | exact (fun h => h) | assumption), (by first | exact (fun h => h) | assumption)⟩
    ·
      refine T_qLt ⟨by omega, by omega⟩ ⟨by decide, by decide⟩ (fun h5 => ?_) (fun h5 => ?_)
      ·
        unfold b_X11_building_32
        refine T_some ?_
        show BoxC o ∧ (Fr [(10, 12), (10, 13), (11, 9999), (12, 9999), (13, 9999), (15, 9999), (16, 9999), (18, 9999), (19, 9999), (20, 9999), (21, 9999)] o o) ∧ (inR (-1)) ∧ (HTC o → HTC o) ∧ (OC o → OC o)
        exact ⟨hB_o, fr_o, (by omega), (by first | exact (fun h => h) | assumption), (by first | exact (fun h => h) | assumption)⟩
      ·
        refine T_qLt ⟨by decide, by decide⟩ ⟨by omega, by omega⟩ (fun h6 => ?_) (fun h6 => ?_)
        ·
          unfold b_X11_building_32
          refine T_some ?_
          show BoxC o ∧ (Fr [(10, 12), (10, 13), (11, 9999), (12, 9999), (13, 9999), (15, 9999), (16, 9999), (18, 9999), (19, 9999), (20, 9999), (21, 9999)] o o) ∧ (inR (-1)) ∧ (HTC o → HTC o) ∧ (OC o → OC o)
          exact ⟨hB_o, fr_o, (by omega), (by first | exact (fun h => h) | assumption), (by first | exact (fun h => h) | assumption)⟩
        ·
          refine T_qB (t_X1_isWorth x4 (by omega)) (fun r5 hc_r5 hp7 => ?_)
          replace hp7 : ((r5 = 1 ∧ (1 ≤ x4 ∧ x4 ≤ 100000)) ∨ (r5 = 0 ∧ ¬ (1 ≤ x4 ∧ x4 ≤ 100000))) := hp7
          refine T_qEq ⟨by omega, by omega⟩ ⟨by decide, by decide⟩ (fun h8 => ?_) (fun h8 => ?_)
          ·
            unfold b_X11_building_32
            refine T_some ?_
            show BoxC o ∧ (Fr [(10, 12), (10, 13), (11, 9999), (12, 9999), (13, 9999), (15, 9999), (16, 9999), (18, 9999), (19, 9999), (20, 9999), (21, 9999)] o o) ∧ (inR (-1)) ∧ (HTC o → HTC o) ∧ (OC o → OC o)
            exact ⟨hB_o, fr_o, (by omega), (by first | exact (fun h => h) | assumption), (by first | exact (fun h => h) | assumption)⟩
          ·
            refine T_qB (t_X1_number o hB_o) (fun r7 hc_r7 hp9 => ?_)
            replace hp9 : (r7 = o.1 10 12) := hp9
            refine T_qLt ⟨by omega, by omega⟩ ⟨by decide, by decide⟩ (fun h10 => ?_) (fun h10 => ?_)
            ·
              refine T_qB (t_X1_tellingsLeft o hB_o) (fun r9 hc_r9 hp11 => ?_)
              replace hp11 : (r9 = 100 - o.1 10 13) := hp11
              refine T_qLt ⟨by omega, by omega⟩ ⟨by decide, by decide⟩ (fun h12 => ?_) (fun h12 => ?_)
              ·
                unfold b_X11_building_57
                refine T_some ?_
                show BoxC o ∧ (Fr [(10, 12), (10, 13), (11, 9999), (12, 9999), (13, 9999), (15, 9999), (16, 9999), (18, 9999), (19, 9999), (20, 9999), (21, 9999)] o o) ∧ (inR (-2)) ∧ (HTC o → HTC o) ∧ (OC o → OC o)
                exact ⟨hB_o, fr_o, (by omega), (by first | exact (fun h => h) | assumption), (by first | exact (fun h => h) | assumption)⟩
              ·
                refine T_qB (t_X3_isWater o x1 hB_o (by omega)) (fun r11 hc_r11 hp13 => ?_)
                replace hp13 : ((r11 = 1 ∧ (o.1 8 x1.toNat = 4)) ∨ (r11 = 0 ∧ ¬ (o.1 8 x1.toNat = 4))) := hp13
                refine T_qEq ⟨by omega, by omega⟩ ⟨by decide, by decide⟩ (fun h14 => ?_) (fun h14 => ?_)
                ·
                  refine T_qB (t_X1_standingOn o x1 hB_o (by omega)) (fun r13 hc_r13 hp15 => ?_)
                  replace hp15 : (-9 ≤ r13 ∧ r13 ≤ 31) ∧ (r13 = -9 ∨ 0 ≤ r13) ∧ (r13 = o.1 18 x1.toNat) := hp15
                  have hps_hp15 := hp15
                  obtain ⟨hp15_0, hp15_1, hp15_2⟩ := hps_hp15
                  replace hp15 := hid hp15
                  refine T_qEq ⟨by omega, by omega⟩ ⟨by decide, by decide⟩ (fun h16 => ?_) (fun h16 => ?_)
                  ·
                    refine T_qB2 (t_X1_add o x1 x2 x3 x4 (o.1 0 13) hB_o (by omega) (by omega) (by omega) (by omega) (by omega) (by omega) (by omega)) (fun r15 o17 hc_r15 hp17 => ?_)
                    replace hp17 : BoxC o17 ∧ (Fr [(10, 12), (10, 13), (11, 9999), (12, 9999), (13, 9999), (15, 9999), (16, 9999), (18, 9999), (19, 9999), (20, 9999), (21, 9999)] o o17) ∧ (r15 = o.1 10 12) ∧ (HTC o → HTC o17) ∧ (OC o → o.1 18 x1.toNat = -9 → OC o17) := hp17
                    obtain ⟨hB_o17, fc_o17, hp17⟩ := hp17
                    have fr_o17 : Fr [(10, 12), (10, 13), (11, 9999), (12, 9999), (13, 9999), (15, 9999), (16, 9999), (18, 9999), (19, 9999), (20, 9999), (21, 9999)] o o17 := Fr.tr fr_o fc_o17 rfl
                    have g0_13_o17 : o17.1 0 13 = o.1 0 13 := fc_o17.1 0 13 rfl
                    have g10_12_o17 := bC_10_12 hB_o17
                    have g10_13_o17 := bC_10_13 hB_o17
                    have b1 : HTC o → HTC o17 := hp17.2.1
                    have b2 : OC o → OC o17 := fun h => hp17.2.2 h (by omega)
                    have b3 := hp17.1
                    refine T_some ?_
                    show BoxC o17 ∧ (Fr [(10, 12), (10, 13), (11, 9999), (12, 9999), (13, 9999), (15, 9999), (16, 9999), (18, 9999), (19, 9999), (20, 9999), (21, 9999)] o o17) ∧ (inR r15) ∧ (HTC o → HTC o17) ∧ (OC o → OC o17)
                    exact ⟨hB_o17, fr_o17, (by omega), (by first | exact (fun h => h) | assumption), (by first | exact (fun h => h) | assumption)⟩
                  ·
                    unfold b_X11_building_84
                    refine T_some ?_
                    show BoxC o ∧ (Fr [(10, 12), (10, 13), (11, 9999), (12, 9999), (13, 9999), (15, 9999), (16, 9999), (18, 9999), (19, 9999), (20, 9999), (21, 9999)] o o) ∧ (inR (-4)) ∧ (HTC o → HTC o) ∧ (OC o → OC o)
                    exact ⟨hB_o, fr_o, (by omega), (by first | exact (fun h => h) | assumption), (by first | exact (fun h => h) | assumption)⟩
                ·
                  unfold b_X11_building_84
                  refine T_some ?_
                  show BoxC o ∧ (Fr [(10, 12), (10, 13), (11, 9999), (12, 9999), (13, 9999), (15, 9999), (16, 9999), (18, 9999), (19, 9999), (20, 9999), (21, 9999)] o o) ∧ (inR (-4)) ∧ (HTC o → HTC o) ∧ (OC o → OC o)
                  exact ⟨hB_o, fr_o, (by omega), (by first | exact (fun h => h) | assumption), (by first | exact (fun h => h) | assumption)⟩
            ·
              unfold b_X11_building_57
              refine T_some ?_
              show BoxC o ∧ (Fr [(10, 12), (10, 13), (11, 9999), (12, 9999), (13, 9999), (15, 9999), (16, 9999), (18, 9999), (19, 9999), (20, 9999), (21, 9999)] o o) ∧ (inR (-2)) ∧ (HTC o → HTC o) ∧ (OC o → OC o)
              exact ⟨hB_o, fr_o, (by omega), (by first | exact (fun h => h) | assumption), (by first | exact (fun h => h) | assumption)⟩
set_option maxRecDepth 20000 in
set_option maxHeartbeats 4000000 in
theorem t_X1_exists (o : OO) (x1 : Int) (hB_o : BoxC o) (k0 : inR x1) : T (s_X1_exists o x1) (fun v => ((v = 1 ∧ (0 ≤ x1 ∧ x1 < o.1 10 12)) ∨ (v = 0 ∧ ¬ (0 ≤ x1 ∧ x1 < o.1 10 12)))) := by
  have g10_12_o := bC_10_12 hB_o
  unfold s_X1_exists
  refine T_qLt ⟨by omega, by omega⟩ ⟨by decide, by decide⟩ (fun h1 => ?_) (fun h1 => ?_)
  ·
    unfold b_X1_exists_16
    unfold b_X1_exists_17
    refine T_qZ (Or.inl rfl) ?_
    refine T_some ?_
    show ((0 = 1 ∧ (0 ≤ x1 ∧ x1 < o.1 10 12)) ∨ (0 = 0 ∧ ¬ (0 ≤ x1 ∧ x1 < o.1 10 12)))
    exact (by omega)
  ·
    refine T_qLt ⟨by omega, by omega⟩ ⟨by omega, by omega⟩ (fun h2 => ?_) (fun h2 => ?_)
    ·
      unfold b_X1_exists_17
      refine T_qZ (Or.inr rfl) ?_
      refine T_some ?_
      show ((1 = 1 ∧ (0 ≤ x1 ∧ x1 < o.1 10 12)) ∨ (1 = 0 ∧ ¬ (0 ≤ x1 ∧ x1 < o.1 10 12)))
      exact (by omega)
    ·
      unfold b_X1_exists_16
      unfold b_X1_exists_17
      refine T_qZ (Or.inl rfl) ?_
      refine T_some ?_
      show ((0 = 1 ∧ (0 ≤ x1 ∧ x1 < o.1 10 12)) ∨ (0 = 0 ∧ ¬ (0 ≤ x1 ∧ x1 < o.1 10 12)))
      exact (by omega)
set_option maxRecDepth 20000 in
set_option maxHeartbeats 4000000 in
theorem t_X5_exists (o : OO) (x1 : Int) (hB_o : BoxC o) (k0 : inR x1) : T (s_X5_exists o x1) (fun v => ((v = 1 ∧ (0 ≤ x1 ∧ x1 < o.1 23 4)) ∨ (v = 0 ∧ ¬ (0 ≤ x1 ∧ x1 < o.1 23 4)))) := by
  have g23_4_o := bC_23_4 hB_o
  unfold s_X5_exists
  refine T_qLt ⟨by omega, by omega⟩ ⟨by decide, by decide⟩ (fun h1 => ?_) (fun h1 => ?_)
  ·
    unfold b_X5_exists_16
    unfold b_X5_exists_17
    refine T_qZ (Or.inl rfl) ?_
    refine T_some ?_
    show ((0 = 1 ∧ (0 ≤ x1 ∧ x1 < o.1 23 4)) ∨ (0 = 0 ∧ ¬ (0 ≤ x1 ∧ x1 < o.1 23 4)))
    exact (by omega)
  ·
    refine T_qLt ⟨by omega, by omega⟩ ⟨by omega, by omega⟩ (fun h2 => ?_) (fun h2 => ?_)
    ·
      unfold b_X5_exists_17
      refine T_qZ (Or.inr rfl) ?_
      refine T_some ?_
      show ((1 = 1 ∧ (0 ≤ x1 ∧ x1 < o.1 23 4)) ∨ (1 = 0 ∧ ¬ (0 ≤ x1 ∧ x1 < o.1 23 4)))
      exact (by omega)
    ·
      unfold b_X5_exists_16
      unfold b_X5_exists_17
      refine T_qZ (Or.inl rfl) ?_
      refine T_some ?_
      show ((0 = 1 ∧ (0 ≤ x1 ∧ x1 < o.1 23 4)) ∨ (0 = 0 ∧ ¬ (0 ≤ x1 ∧ x1 < o.1 23 4)))
      exact (by omega)
set_option maxRecDepth 20000 in
set_option maxHeartbeats 4000000 in
theorem t_X2_buys (o : OO) (hB_o : BoxC o) : T (s_X2_buys o) (fun v => (v = o.1 46 6)) := by
  have g46_6_o := bC_46_6 hB_o
  unfold s_X2_buys
  refine T_some ?_
  show ((o.1 46 6) = o.1 46 6)
  exact (by omega)
set_option maxRecDepth 20000 in
set_option maxHeartbeats 4000000 in
theorem t_X1_isTaken (o : OO) (x1 : Int) (hB_o : BoxC o) (k0 : 0 ≤ x1 ∧ x1 ≤ 31) : T (s_X1_isTaken o x1) (fun v => (0 ≤ v ∧ v ≤ 1) ∧ (v = o.1 17 x1.toNat)) := by
  unfold s_X1_isTaken
  refine T_qIn ⟨by omega, by omega⟩ ?_
  refine T_qNm (fun n2 e_n2 => ?_)
  have b_n2 : 0 ≤ n2 ∧ n2 ≤ 1 := by rw [e_n2]; exact bC_17 hB_o _
  refine T_qZ (by omega) ?_
  refine T_some ?_
  show (0 ≤ n2 ∧ n2 ≤ 1) ∧ (n2 = o.1 17 x1.toNat)
  exact ⟨(by omega), (by omega)⟩
set_option maxRecDepth 20000 in
set_option maxHeartbeats 4000000 in
theorem t_X1_setBuyer (o : OO) (x1 : Int) (x2 : Int) (hB_o : BoxC o) (k0 : 0 ≤ x1 ∧ x1 ≤ 31) (k1 : 0 ≤ x2 ∧ x2 ≤ 39) : T (s_X1_setBuyer o x1 x2) (fun v => BoxC v ∧ (Fr [(15, 9999)] o v)) := by
  have fr_o : Fr [(15, 9999)] o o := Fr.rf
  unfold s_X1_setBuyer
  refine T_qIn ⟨by omega, by omega⟩ ?_
  refine T_qNm (fun o2 e_o2 => ?_)
  have hB_o2 : BoxC o2 := by rw [e_o2]; exact Box.s1 hB_o (show -9 ≤ x2 ∧ x2 ≤ 39 from ⟨by omega, by omega⟩)
  have fr_o2 : Fr [(15, 9999)] o o2 := by rw [e_o2]; exact Fr.s1 fr_o rfl
  refine T_some ?_
  show BoxC o2 ∧ (Fr [(15, 9999)] o o2)
  exact ⟨hB_o2, fr_o2⟩
set_option maxRecDepth 20000 in
set_option maxHeartbeats 4000000 in
theorem t_X2_addBuy (o : OO) (x1 : Int) (x2 : Int) (x3 : Int) (hB_o : BoxC o) (k0 : 0 ≤ x1 ∧ x1 ≤ 31) (k1 : 0 ≤ x2 ∧ x2 ≤ 39) (k2 : 0 ≤ x3 ∧ x3 ≤ 999) (k3 : o.1 46 6 ≤ 39) : T (s_X2_addBuy o x1 x2 x3) (fun v => BoxC v.2 ∧ (Fr [(46, 6), (47, 9999), (48, 9999), (49, 9999)] o v.2) ∧ (inR v.1)) := by
  have fr_o : Fr [(46, 6), (47, 9999), (48, 9999), (49, 9999)] o o := Fr.rf
  have g46_6_o := bC_46_6 hB_o
  unfold s_X2_addBuy
  refine T_qIn ⟨by omega, by omega⟩ ?_
  refine T_qNm (fun o2 e_o2 => ?_)
  have hB_o2 : BoxC o2 := by rw [e_o2]; exact Box.s1 hB_o (show 0 ≤ x1 ∧ x1 ≤ 31 from ⟨by omega, by omega⟩)
  have fr_o2 : Fr [(46, 6), (47, 9999), (48, 9999), (49, 9999)] o o2 := by rw [e_o2]; exact Fr.s1 fr_o rfl
  have g46_6_o2 : o2.1 46 6 = o.1 46 6 := by rw [e_o2]; rfl
  refine T_qIn ⟨by omega, by omega⟩ ?_
  refine T_qNm (fun o4 e_o4 => ?_)
  have hB_o4 : BoxC o4 := by rw [e_o4]; exact Box.s1 hB_o2 (show 0 ≤ x2 ∧ x2 ≤ 39 from ⟨by omega, by omega⟩)
  have fr_o4 : Fr [(46, 6), (47, 9999), (48, 9999), (49, 9999)] o o4 := by rw [e_o4]; exact Fr.s1 fr_o2 rfl
  have g46_6_o4 : o4.1 46 6 = o2.1 46 6 := by rw [e_o4]; rfl
  refine T_qIn ⟨by omega, by omega⟩ ?_
  refine T_qNm (fun o6 e_o6 => ?_)
  have hB_o6 : BoxC o6 := by rw [e_o6]; exact Box.s1 hB_o4 (show 0 ≤ x3 ∧ x3 ≤ 999 from ⟨by omega, by omega⟩)
  have fr_o6 : Fr [(46, 6), (47, 9999), (48, 9999), (49, 9999)] o o6 := by rw [e_o6]; exact Fr.s1 fr_o4 rfl
  have g46_6_o6 : o6.1 46 6 = o4.1 46 6 := by rw [e_o6]; rfl
  refine T_qNm (fun o7 e_o7 => ?_)
  have hB_o7 : BoxC o7 := by rw [e_o7]; exact Box.s1 hB_o6 (show 0 ≤ ((o6.1 46 6) + 1) ∧ ((o6.1 46 6) + 1) ≤ 40 from ⟨by omega, by omega⟩)
  have fr_o7 : Fr [(46, 6), (47, 9999), (48, 9999), (49, 9999)] o o7 := by rw [e_o7]; exact Fr.s1 fr_o6 rfl
  have g46_6_o7 : o7.1 46 6 = ((o6.1 46 6) + 1) := by rw [e_o7]; rfl
  refine T_some ?_
  show BoxC o7 ∧ (Fr [(46, 6), (47, 9999), (48, 9999), (49, 9999)] o o7) ∧ (inR (o7.1 46 6))
  exact ⟨hB_o7, fr_o7, (by omega)⟩
set_option maxRecDepth 20000 in
set_option maxHeartbeats 4000000 in
theorem t_X11_buy (o : OO) (x1 : Int) (x2 : Int) (hB_o : BoxC o) (k0 : inR x1) (k1 : inR x2) : T (s_X11_buy o x1 x2) (fun v => BoxC v.2 ∧ (Fr [(15, 9999), (46, 6), (47, 9999), (48, 9999), (49, 9999)] o v.2)) := by
  have fr_o : Fr [(15, 9999), (46, 6), (47, 9999), (48, 9999), (49, 9999)] o o := Fr.rf
  have g0_13_o := bC_0_13 hB_o
  have g10_12_o := bC_10_12 hB_o
  have g23_4_o := bC_23_4 hB_o
  have g46_6_o := bC_46_6 hB_o
  unfold s_X11_buy
  refine T_qB (t_X1_exists o x1 hB_o (by omega)) (fun r1 hc_r1 hp1 => ?_)
  replace hp1 : ((r1 = 1 ∧ (0 ≤ x1 ∧ x1 < o.1 10 12)) ∨ (r1 = 0 ∧ ¬ (0 ≤ x1 ∧ x1 < o.1 10 12))) := hp1
  refine T_qEq ⟨by omega, by omega⟩ ⟨by decide, by decide⟩ (fun h2 => ?_) (fun h2 => ?_)
  ·
    unfold b_X11_buy_22
    refine T_some ?_
    show BoxC o ∧ (Fr [(15, 9999), (46, 6), (47, 9999), (48, 9999), (49, 9999)] o o)
    exact ⟨hB_o, fr_o⟩
  ·
    refine T_qB (t_X5_exists o x2 hB_o (by omega)) (fun r3 hc_r3 hp3 => ?_)
    replace hp3 : ((r3 = 1 ∧ (0 ≤ x2 ∧ x2 < o.1 23 4)) ∨ (r3 = 0 ∧ ¬ (0 ≤ x2 ∧ x2 < o.1 23 4))) := hp3
    refine T_qEq ⟨by omega, by omega⟩ ⟨by decide, by decide⟩ (fun h4 => ?_) (fun h4 => ?_)
    ·
      unfold b_X11_buy_22
      refine T_some ?_
      show BoxC o ∧ (Fr [(15, 9999), (46, 6), (47, 9999), (48, 9999), (49, 9999)] o o)
      exact ⟨hB_o, fr_o⟩
    ·
      refine T_qB (t_X2_buys o hB_o) (fun r5 hc_r5 hp5 => ?_)
      replace hp5 : (r5 = o.1 46 6) := hp5
      refine T_qLt ⟨by omega, by omega⟩ ⟨by decide, by decide⟩ (fun h6 => ?_) (fun h6 => ?_)
      ·
        refine T_qB (t_X1_isTaken o x1 hB_o (by omega)) (fun r7 hc_r7 hp7 => ?_)
        replace hp7 : (0 ≤ r7 ∧ r7 ≤ 1) ∧ (r7 = o.1 17 x1.toNat) := hp7
        have hps_hp7 := hp7
        obtain ⟨hp7_0, hp7_1⟩ := hps_hp7
        replace hp7 := hid hp7
        refine T_qEq ⟨by omega, by omega⟩ ⟨by decide, by decide⟩ (fun h8 => ?_) (fun h8 => ?_)
        ·
          refine T_qB (t_X1_setBuyer o x1 x2 hB_o (by omega) (by omega)) (fun o11 hc_o11 hp9 => ?_)
          replace hp9 : BoxC o11 ∧ (Fr [(15, 9999)] o o11) := hp9
          obtain ⟨hB_o11, fc_o11⟩ := hp9
          have fr_o11 : Fr [(15, 9999), (46, 6), (47, 9999), (48, 9999), (49, 9999)] o o11 := Fr.tr fr_o fc_o11 rfl
          have g0_13_o11 : o11.1 0 13 = o.1 0 13 := fc_o11.1 0 13 rfl
          have g10_12_o11 : o11.1 10 12 = o.1 10 12 := fc_o11.1 10 12 rfl
          have g23_4_o11 : o11.1 23 4 = o.1 23 4 := fc_o11.1 23 4 rfl
          have g46_6_o11 : o11.1 46 6 = o.1 46 6 := fc_o11.1 46 6 rfl
          refine T_qB2 (t_X2_addBuy o11 x1 x2 (o11.1 0 13) hB_o11 (by omega) (by omega) (by omega) (by omega)) (fun r12 o14 hc_r12 hp10 => ?_)
          replace hp10 : BoxC o14 ∧ (Fr [(46, 6), (47, 9999), (48, 9999), (49, 9999)] o11 o14) ∧ (inR r12) := hp10
          obtain ⟨hB_o14, fc_o14, hp10⟩ := hp10
          have fr_o14 : Fr [(15, 9999), (46, 6), (47, 9999), (48, 9999), (49, 9999)] o o14 := Fr.tr fr_o11 fc_o14 rfl
          have g0_13_o14 : o14.1 0 13 = o11.1 0 13 := fc_o14.1 0 13 rfl
          have g10_12_o14 : o14.1 10 12 = o11.1 10 12 := fc_o14.1 10 12 rfl
          have g23_4_o14 : o14.1 23 4 = o11.1 23 4 := fc_o14.1 23 4 rfl
          have g46_6_o14 := bC_46_6 hB_o14
          refine T_some ?_
          show BoxC o14 ∧ (Fr [(15, 9999), (46, 6), (47, 9999), (48, 9999), (49, 9999)] o o14)
          exact ⟨hB_o14, fr_o14⟩
        ·
          refine T_some ?_
          show BoxC o ∧ (Fr [(15, 9999), (46, 6), (47, 9999), (48, 9999), (49, 9999)] o o)
          exact ⟨hB_o, fr_o⟩
      ·
        refine T_some ?_
        show BoxC o ∧ (Fr [(15, 9999), (46, 6), (47, 9999), (48, 9999), (49, 9999)] o o)
        exact ⟨hB_o, fr_o⟩
set_option maxRecDepth 20000 in
set_option maxHeartbeats 4000000 in
theorem t_X3_change (o : OO) (x1 : Int) (x2 : Int) (x3 : Int) (hB_o : BoxC o) (k0 : 0 ≤ x1 ∧ x1 ≤ 63) (k1 : 0 ≤ x2 ∧ x2 ≤ 4) (k2 : 0 ≤ x3 ∧ x3 ≤ 99) : T (s_X3_change o x1 x2 x3) (fun v => BoxC v ∧ (Fr [(8, 9999), (9, 9999)] o v)) := by
  have fr_o : Fr [(8, 9999), (9, 9999)] o o := Fr.rf
  unfold s_X3_change
  refine T_qIn ⟨by omega, by omega⟩ ?_
  refine T_qNm (fun o2 e_o2 => ?_)
  have hB_o2 : BoxC o2 := by rw [e_o2]; exact Box.s1 hB_o (show 0 ≤ x2 ∧ x2 ≤ 4 from ⟨by omega, by omega⟩)
  have fr_o2 : Fr [(8, 9999), (9, 9999)] o o2 := by rw [e_o2]; exact Fr.s1 fr_o rfl
  refine T_qIn ⟨by omega, by omega⟩ ?_
  refine T_qNm (fun o4 e_o4 => ?_)
  have hB_o4 : BoxC o4 := by rw [e_o4]; exact Box.s1 hB_o2 (show 0 ≤ x3 ∧ x3 ≤ 99 from ⟨by omega, by omega⟩)
  have fr_o4 : Fr [(8, 9999), (9, 9999)] o o4 := by rw [e_o4]; exact Fr.s1 fr_o2 rfl
  refine T_some ?_
  show BoxC o4 ∧ (Fr [(8, 9999), (9, 9999)] o o4)
  exact ⟨hB_o4, fr_o4⟩
set_option maxRecDepth 20000 in
set_option maxHeartbeats 4000000 in
theorem t_X11_cell (o : OO) (x1 : Int) (x2 : Int) (x3 : Int) (hB_o : BoxC o) (k0 : inR x1) (k1 : inR x2) (k2 : inR x3) : T (s_X11_cell o x1 x2 x3) (fun v => BoxC v.2 ∧ (Fr [(8, 9999), (9, 9999)] o v.2)) := by
  have fr_o : Fr [(8, 9999), (9, 9999)] o o := Fr.rf
  unfold s_X11_cell
  refine T_qB (t_X3_isCell x1 (by omega)) (fun r4 hc_r4 hp1 => ?_)
  replace hp1 : ((r4 = 1 ∧ (0 ≤ x1 ∧ x1 < 64)) ∨ (r4 = 0 ∧ ¬ (0 ≤ x1 ∧ x1 < 64))) := hp1
  refine T_qEq ⟨by omega, by omega⟩ ⟨by decide, by decide⟩ (fun h2 => ?_) (fun h2 => ?_)
  ·
    unfold b_X11_cell_26
    refine T_some ?_
    show BoxC o ∧ (Fr [(8, 9999), (9, 9999)] o o)
    exact ⟨hB_o, fr_o⟩
  ·
    refine T_qLt ⟨by omega, by omega⟩ ⟨by decide, by decide⟩ (fun h3 => ?_) (fun h3 => ?_)
    ·
      unfold b_X11_cell_26
      refine T_some ?_
      show BoxC o ∧ (Fr [(8, 9999), (9, 9999)] o o)
      exact ⟨hB_o, fr_o⟩
    ·
      refine T_qLt ⟨by decide, by decide⟩ ⟨by omega, by omega⟩ (fun h4 => ?_) (fun h4 => ?_)
      ·
        unfold b_X11_cell_26
        refine T_some ?_
        show BoxC o ∧ (Fr [(8, 9999), (9, 9999)] o o)
        exact ⟨hB_o, fr_o⟩
      ·
        refine T_qLt ⟨by omega, by omega⟩ ⟨by decide, by decide⟩ (fun h5 => ?_) (fun h5 => ?_)
        ·
          unfold b_X11_cell_26
          refine T_some ?_
          show BoxC o ∧ (Fr [(8, 9999), (9, 9999)] o o)
          exact ⟨hB_o, fr_o⟩
        ·
          refine T_qLt ⟨by decide, by decide⟩ ⟨by omega, by omega⟩ (fun h6 => ?_) (fun h6 => ?_)
          ·
            unfold b_X11_cell_26
            refine T_some ?_
            show BoxC o ∧ (Fr [(8, 9999), (9, 9999)] o o)
            exact ⟨hB_o, fr_o⟩
          ·
            refine T_qEq ⟨by omega, by omega⟩ ⟨by decide, by decide⟩ (fun h7 => ?_) (fun h7 => ?_)
            ·
              refine T_qB (t_X1_standingOn o x1 hB_o (by omega)) (fun r6 hc_r6 hp8 => ?_)
              replace hp8 : (-9 ≤ r6 ∧ r6 ≤ 31) ∧ (r6 = -9 ∨ 0 ≤ r6) ∧ (r6 = o.1 18 x1.toNat) := hp8
              have hps_hp8 := hp8
              obtain ⟨hp8_0, hp8_1, hp8_2⟩ := hps_hp8
              replace hp8 := hid hp8
              refine T_qEq ⟨by omega, by omega⟩ ⟨by decide, by decide⟩ (fun h9 => ?_) (fun h9 => ?_)
              ·
                unfold b_X11_cell_49
                refine T_qB (t_X3_change o x1 x2 x3 hB_o (by omega) (by omega) (by omega)) (fun o3 hc_o3 hp10 => ?_)
                replace hp10 : BoxC o3 ∧ (Fr [(8, 9999), (9, 9999)] o o3) := hp10
                obtain ⟨hB_o3, fc_o3⟩ := hp10
                have fr_o3 : Fr [(8, 9999), (9, 9999)] o o3 := Fr.tr fr_o fc_o3 rfl
                refine T_some ?_
                show BoxC o3 ∧ (Fr [(8, 9999), (9, 9999)] o o3)
                exact ⟨hB_o3, fr_o3⟩
              ·
                refine T_some ?_
                show BoxC o ∧ (Fr [(8, 9999), (9, 9999)] o o)
                exact ⟨hB_o, fr_o⟩
            ·
              unfold b_X11_cell_49
              refine T_qB (t_X3_change o x1 x2 x3 hB_o (by omega) (by omega) (by omega)) (fun o3 hc_o3 hp11 => ?_)
              replace hp11 : BoxC o3 ∧ (Fr [(8, 9999), (9, 9999)] o o3) := hp11
              obtain ⟨hB_o3, fc_o3⟩ := hp11
              have fr_o3 : Fr [(8, 9999), (9, 9999)] o o3 := Fr.tr fr_o fc_o3 rfl
              refine T_some ?_
              show BoxC o3 ∧ (Fr [(8, 9999), (9, 9999)] o o3)
              exact ⟨hB_o3, fr_o3⟩
set_option maxRecDepth 20000 in
set_option maxHeartbeats 4000000 in
theorem t_X4_exists (o : OO) (x1 : Int) (hB_o : BoxC o) (k0 : inR x1) : T (s_X4_exists o x1) (fun v => ((v = 1 ∧ (0 ≤ x1 ∧ x1 < o.1 32 13)) ∨ (v = 0 ∧ ¬ (0 ≤ x1 ∧ x1 < o.1 32 13)))) := by
  have g32_13_o := bC_32_13 hB_o
  unfold s_X4_exists
  refine T_qLt ⟨by omega, by omega⟩ ⟨by decide, by decide⟩ (fun h1 => ?_) (fun h1 => ?_)
  ·
    unfold b_X4_exists_16
    unfold b_X4_exists_17
    refine T_qZ (Or.inl rfl) ?_
    refine T_some ?_
    show ((0 = 1 ∧ (0 ≤ x1 ∧ x1 < o.1 32 13)) ∨ (0 = 0 ∧ ¬ (0 ≤ x1 ∧ x1 < o.1 32 13)))
    exact (by omega)
  ·
    refine T_qLt ⟨by omega, by omega⟩ ⟨by omega, by omega⟩ (fun h2 => ?_) (fun h2 => ?_)
    ·
      unfold b_X4_exists_17
      refine T_qZ (Or.inr rfl) ?_
      refine T_some ?_
      show ((1 = 1 ∧ (0 ≤ x1 ∧ x1 < o.1 32 13)) ∨ (1 = 0 ∧ ¬ (0 ≤ x1 ∧ x1 < o.1 32 13)))
      exact (by omega)
    ·
      unfold b_X4_exists_16
      unfold b_X4_exists_17
      refine T_qZ (Or.inl rfl) ?_
      refine T_some ?_
      show ((0 = 1 ∧ (0 ≤ x1 ∧ x1 < o.1 32 13)) ∨ (0 = 0 ∧ ¬ (0 ≤ x1 ∧ x1 < o.1 32 13)))
      exact (by omega)
set_option maxRecDepth 20000 in
set_option maxHeartbeats 4000000 in
theorem t_X4_isOf (o : OO) (x1 : Int) (x2 : Int) (hB_o : BoxC o) (k0 : 0 ≤ x1 ∧ x1 ≤ 23) (k1 : inR x2) : T (s_X4_isOf o x1 x2) (fun v => (0 ≤ v ∧ v ≤ 1)) := by
  unfold s_X4_isOf
  refine T_qIn ⟨by omega, by omega⟩ ?_
  refine T_qNm (fun n2 e_n2 => ?_)
  have b_n2 : 0 ≤ n2 ∧ n2 ≤ 6 := by rw [e_n2]; exact bC_33 hB_o _
  refine T_qEq ⟨by omega, by omega⟩ ⟨by omega, by omega⟩ (fun h1 => ?_) (fun h1 => ?_)
  ·
    unfold b_X4_isOf_32
    unfold b_X4_isOf_37
    refine T_qZ (Or.inr rfl) ?_
    refine T_some ?_
    show (0 ≤ 1 ∧ 1 ≤ 1)
    exact (by omega)
  ·
    refine T_qEq ⟨by omega, by omega⟩ ⟨by decide, by decide⟩ (fun h2 => ?_) (fun h2 => ?_)
    ·
      refine T_qEq ⟨by omega, by omega⟩ ⟨by decide, by decide⟩ (fun h3 => ?_) (fun h3 => ?_)
      ·
        unfold b_X4_isOf_32
        unfold b_X4_isOf_37
        refine T_qZ (Or.inr rfl) ?_
        refine T_some ?_
        show (0 ≤ 1 ∧ 1 ≤ 1)
        exact (by omega)
      ·
        unfold b_X4_isOf_22
        refine T_qEq ⟨by omega, by omega⟩ ⟨by decide, by decide⟩ (fun h4 => ?_) (fun h4 => ?_)
        ·
          refine T_qEq ⟨by omega, by omega⟩ ⟨by decide, by decide⟩ (fun h5 => ?_) (fun h5 => ?_)
          ·
            unfold b_X4_isOf_32
            unfold b_X4_isOf_37
            refine T_qZ (Or.inr rfl) ?_
            refine T_some ?_
            show (0 ≤ 1 ∧ 1 ≤ 1)
            exact (by omega)
          ·
            unfold b_X4_isOf_36
            unfold b_X4_isOf_37
            refine T_qZ (Or.inl rfl) ?_
            refine T_some ?_
            show (0 ≤ 0 ∧ 0 ≤ 1)
            exact (by omega)
        ·
          unfold b_X4_isOf_36
          unfold b_X4_isOf_37
          refine T_qZ (Or.inl rfl) ?_
          refine T_some ?_
          show (0 ≤ 0 ∧ 0 ≤ 1)
          exact (by omega)
    ·
      unfold b_X4_isOf_22
      refine T_qEq ⟨by omega, by omega⟩ ⟨by decide, by decide⟩ (fun h6 => ?_) (fun h6 => ?_)
      ·
        refine T_qEq ⟨by omega, by omega⟩ ⟨by decide, by decide⟩ (fun h7 => ?_) (fun h7 => ?_)
        ·
          unfold b_X4_isOf_32
          unfold b_X4_isOf_37
          refine T_qZ (Or.inr rfl) ?_
          refine T_some ?_
          show (0 ≤ 1 ∧ 1 ≤ 1)
          exact (by omega)
        ·
          unfold b_X4_isOf_36
          unfold b_X4_isOf_37
          refine T_qZ (Or.inl rfl) ?_
          refine T_some ?_
          show (0 ≤ 0 ∧ 0 ≤ 1)
          exact (by omega)
      ·
        unfold b_X4_isOf_36
        unfold b_X4_isOf_37
        refine T_qZ (Or.inl rfl) ?_
        refine T_some ?_
        show (0 ≤ 0 ∧ 0 ≤ 1)
        exact (by omega)
set_option maxRecDepth 20000 in
set_option maxHeartbeats 4000000 in
theorem t_X4_cellAt (o : OO) (x1 : Int) (x2 : Int) (hB_o : BoxC o) (k0 : 0 ≤ x1 ∧ x1 ≤ 23) (k1 : inR x2) : T (s_X4_cellAt o x1 x2) (fun v => (-9 ≤ v ∧ v ≤ 63)) := by
  unfold s_X4_cellAt
  refine T_qLt ⟨by omega, by omega⟩ ⟨by decide, by decide⟩ (fun h1 => ?_) (fun h1 => ?_)
  ·
    unfold b_X4_cellAt_14
    refine T_some ?_
    show (-9 ≤ (-9) ∧ (-9) ≤ 63)
    exact (by omega)
  ·
    refine T_qIn ⟨by omega, by omega⟩ ?_
    refine T_qNm (fun n2 e_n2 => ?_)
    have b_n2 : 0 ≤ n2 ∧ n2 ≤ 64 := by rw [e_n2]; exact bC_36 hB_o _
    refine T_qLt ⟨by omega, by omega⟩ ⟨by omega, by omega⟩ (fun h2 => ?_) (fun h2 => ?_)
    ·
      refine T_qIn ⟨by omega, by omega⟩ ?_
      refine T_qNm (fun n4 e_n4 => ?_)
      have b_n4 : 0 ≤ n4 ∧ n4 ≤ 63 := by rw [e_n4]; exact bC_37 hB_o _
      refine T_some ?_
      show (-9 ≤ n4 ∧ n4 ≤ 63)
      exact (by omega)
    ·
      unfold b_X4_cellAt_14
      refine T_some ?_
      show (-9 ≤ (-9) ∧ (-9) ≤ 63)
      exact (by omega)
set_option maxRecDepth 20000 in
set_option maxHeartbeats 4000000 in
theorem t_X11_cellOf (o : OO) (x1 : Int) (x2 : Int) (hB_o : BoxC o) (k0 : inR x1) (k1 : inR x2) : T (s_X11_cellOf o x1 x2) (fun v => BoxC v.2 ∧ (Fr [(0, 17), (77, 9999)] o v.2)) := by
  have fr_o : Fr [(0, 17), (77, 9999)] o o := Fr.rf
  have g32_13_o := bC_32_13 hB_o
  unfold s_X11_cellOf
  refine T_qB (t_X4_exists o x1 hB_o (by omega)) (fun r1 hc_r1 hp1 => ?_)
  replace hp1 : ((r1 = 1 ∧ (0 ≤ x1 ∧ x1 < o.1 32 13)) ∨ (r1 = 0 ∧ ¬ (0 ≤ x1 ∧ x1 < o.1 32 13))) := hp1
  refine T_qEq ⟨by omega, by omega⟩ ⟨by decide, by decide⟩ (fun h2 => ?_) (fun h2 => ?_)
  ·
    refine T_some ?_
    show BoxC o ∧ (Fr [(0, 17), (77, 9999)] o o)
    exact ⟨hB_o, fr_o⟩
  ·
    refine T_qB (t_X4_isOf o x1 1 hB_o (by omega) (by omega)) (fun r3 hc_r3 hp3 => ?_)
    replace hp3 : (0 ≤ r3 ∧ r3 ≤ 1) := hp3
    refine T_qEq ⟨by omega, by omega⟩ ⟨by decide, by decide⟩ (fun h4 => ?_) (fun h4 => ?_)
    ·
      refine T_qB2 (t_X11_found o 3 hB_o (by omega)) (fun r7 o9 hc_r7 hp5 => ?_)
      replace hp5 : BoxC o9 ∧ (Fr [(0, 17), (77, 9999)] o o9) ∧ (r7 = -3) := hp5
      obtain ⟨hB_o9, fc_o9, hp5⟩ := hp5
      have fr_o9 : Fr [(0, 17), (77, 9999)] o o9 := Fr.tr fr_o fc_o9 rfl
      have g32_13_o9 : o9.1 32 13 = o.1 32 13 := fc_o9.1 32 13 rfl
      refine T_some ?_
      show BoxC o9 ∧ (Fr [(0, 17), (77, 9999)] o o9)
      exact ⟨hB_o9, fr_o9⟩
    ·
      refine T_qB (t_X4_cellAt o x1 x2 hB_o (by omega) (by omega)) (fun r5 hc_r5 hp6 => ?_)
      replace hp6 : (-9 ≤ r5 ∧ r5 ≤ 63) := hp6
      refine T_some ?_
      show BoxC o ∧ (Fr [(0, 17), (77, 9999)] o o)
      exact ⟨hB_o, fr_o⟩
set_option maxRecDepth 20000 in
set_option maxHeartbeats 4000000 in
theorem t_X11_coins (o : OO) (hB_o : BoxC o) : T (s_X11_coins o) (fun _ => True) := by
  unfold s_X11_coins
  refine T_some ?_
  show True
  exact trivial
set_option maxRecDepth 20000 in
set_option maxHeartbeats 4000000 in
theorem t_X8_holdsFrom (o : OO) (x1 : Int) (x2 : Int) (x3 : Int) (hB_o : BoxC o) (k0 : 0 ≤ x1 ∧ x1 ≤ 5) (k1 : inR x2) (k2 : 0 ≤ x3 ∧ x3 ≤ 2147483647) : T (s_X8_holdsFrom o x1 x2 x3) (fun v => ((v = 1 ∧ 0 ≤ x2 ∧ x2 ≤ o.1 2 x1.toNat - x3 ∧ o.1 2 x1.toNat ≤ 40) ∨ v = 0)) := by
  unfold s_X8_holdsFrom
  refine T_qLt ⟨by omega, by omega⟩ ⟨by decide, by decide⟩ (fun h1 => ?_) (fun h1 => ?_)
  ·
    unfold b_X8_holdsFrom_20
    unfold b_X8_holdsFrom_21
    refine T_qZ (Or.inl rfl) ?_
    refine T_some ?_
    show ((0 = 1 ∧ 0 ≤ x2 ∧ x2 ≤ o.1 2 x1.toNat - x3 ∧ o.1 2 x1.toNat ≤ 40) ∨ 0 = 0)
    exact (by omega)
  ·
    refine T_qIn ⟨by omega, by omega⟩ ?_
    refine T_qNm (fun n2 e_n2 => ?_)
    have b_n2 : -1 ≤ n2 ∧ n2 ≤ 40 := by rw [e_n2]; exact bC_2 hB_o _
    refine T_qLt ⟨by omega, by omega⟩ ⟨by omega, by omega⟩ (fun h2 => ?_) (fun h2 => ?_)
    ·
      unfold b_X8_holdsFrom_20
      unfold b_X8_holdsFrom_21
      refine T_qZ (Or.inl rfl) ?_
      refine T_some ?_
      show ((0 = 1 ∧ 0 ≤ x2 ∧ x2 ≤ o.1 2 x1.toNat - x3 ∧ o.1 2 x1.toNat ≤ 40) ∨ 0 = 0)
      exact (by omega)
    ·
      unfold b_X8_holdsFrom_21
      refine T_qZ (Or.inr rfl) ?_
      refine T_some ?_
      show ((1 = 1 ∧ 0 ≤ x2 ∧ x2 ≤ o.1 2 x1.toNat - x3 ∧ o.1 2 x1.toNat ≤ 40) ∨ 1 = 0)
      exact (by omega)
set_option maxRecDepth 20000 in
set_option maxHeartbeats 4000000 in
theorem t_X8_transfer (o : OO) (x1 : Int) (x2 : Int) (x3 : Int) (x4 : Int) (x5 : Int) (hB_o : BoxC o) (k0 : 0 ≤ x1 ∧ x1 ≤ 5) (k1 : 0 ≤ x2) (k2 : 0 ≤ x3 ∧ x3 ≤ 5) (k3 : 0 ≤ x4) (k4 : 0 ≤ x5) (k5 : x2 + x5 ≤ 40) (k6 : x4 + x5 ≤ 40) : T (s_X8_transfer o x1 x2 x3 x4 x5) (fun v => BoxC v ∧ (Fr [(3, 9999)] o v)) := by
  have fr_o : Fr [(3, 9999)] o o := Fr.rf
  unfold s_X8_transfer
  refine T_qC ⟨by omega, by omega, by omega, by omega, by omega⟩ ?_
  refine T_qNm (fun o2 e_o2 => ?_)
  have hB_o2 : BoxC o2 := by rw [e_o2]; exact Box.c1 hB_o (fun _ _ _ h => h)
  have fr_o2 : Fr [(3, 9999)] o o2 := by rw [e_o2]; exact Fr.c1 fr_o rfl
  refine T_some ?_
  show BoxC o2 ∧ (Fr [(3, 9999)] o o2)
  exact ⟨hB_o2, fr_o2⟩
set_option maxRecDepth 20000 in
set_option maxHeartbeats 4000000 in
theorem t_X11_copy (o : OO) (x1 : Int) (x2 : Int) (x3 : Int) (x4 : Int) (x5 : Int) (hB_o : BoxC o) (k0 : inR x1) (k1 : inR x2) (k2 : inR x3) (k3 : inR x4) (k4 : inR x5) : T (s_X11_copy o x1 x2 x3 x4 x5) (fun v => BoxC v.2 ∧ (Fr [(0, 17), (3, 9999), (77, 9999)] o v.2)) := by
  have fr_o : Fr [(0, 17), (3, 9999), (77, 9999)] o o := Fr.rf
  unfold s_X11_copy
  refine T_qB (t_X8_exists o x1 hB_o (by omega)) (fun r7 hc_r7 hp1 => ?_)
  replace hp1 : ((r7 = 1 ∧ (0 ≤ x1 ∧ x1 < 6)) ∨ (r7 = 0 ∧ ¬ (0 ≤ x1 ∧ x1 < 6))) := hp1
  refine T_qEq ⟨by omega, by omega⟩ ⟨by decide, by decide⟩ (fun h2 => ?_) (fun h2 => ?_)
  ·
    unfold b_X11_copy_22
    refine T_some ?_
    show BoxC o ∧ (Fr [(0, 17), (3, 9999), (77, 9999)] o o)
    exact ⟨hB_o, fr_o⟩
  ·
    refine T_qB (t_X8_exists o x3 hB_o (by omega)) (fun r9 hc_r9 hp3 => ?_)
    replace hp3 : ((r9 = 1 ∧ (0 ≤ x3 ∧ x3 < 6)) ∨ (r9 = 0 ∧ ¬ (0 ≤ x3 ∧ x3 < 6))) := hp3
    refine T_qEq ⟨by omega, by omega⟩ ⟨by decide, by decide⟩ (fun h4 => ?_) (fun h4 => ?_)
    ·
      unfold b_X11_copy_22
      refine T_some ?_
      show BoxC o ∧ (Fr [(0, 17), (3, 9999), (77, 9999)] o o)
      exact ⟨hB_o, fr_o⟩
    ·
      refine T_qLt ⟨by omega, by omega⟩ ⟨by decide, by decide⟩ (fun h5 => ?_) (fun h5 => ?_)
      ·
        refine T_qB2 (t_X11_found o 5 hB_o (by omega)) (fun r22 o24 hc_r22 hp6 => ?_)
        replace hp6 : BoxC o24 ∧ (Fr [(0, 17), (77, 9999)] o o24) ∧ (r22 = -3) := hp6
        obtain ⟨hB_o24, fc_o24, hp6⟩ := hp6
        have fr_o24 : Fr [(0, 17), (3, 9999), (77, 9999)] o o24 := Fr.tr fr_o fc_o24 rfl
        refine T_some ?_
        show BoxC o24 ∧ (Fr [(0, 17), (3, 9999), (77, 9999)] o o24)
        exact ⟨hB_o24, fr_o24⟩
      ·
        refine T_qB (t_X8_isThere o x1 hB_o (by omega)) (fun r11 hc_r11 hp7 => ?_)
        replace hp7 : ((r11 = 1 ∧ (¬ o.1 2 x1.toNat = -1)) ∨ (r11 = 0 ∧ ¬ (¬ o.1 2 x1.toNat = -1))) := hp7
        refine T_qEq ⟨by omega, by omega⟩ ⟨by decide, by decide⟩ (fun h8 => ?_) (fun h8 => ?_)
        ·
          unfold b_X11_copy_57
          refine T_qB2 (t_X11_found o 1 hB_o (by omega)) (fun r1 o3 hc_r1 hp9 => ?_)
          replace hp9 : BoxC o3 ∧ (Fr [(0, 17), (77, 9999)] o o3) ∧ (r1 = -3) := hp9
          obtain ⟨hB_o3, fc_o3, hp9⟩ := hp9
          have fr_o3 : Fr [(0, 17), (3, 9999), (77, 9999)] o o3 := Fr.tr fr_o fc_o3 rfl
          refine T_some ?_
          show BoxC o3 ∧ (Fr [(0, 17), (3, 9999), (77, 9999)] o o3)
          exact ⟨hB_o3, fr_o3⟩
        ·
          refine T_qB (t_X8_isThere o x3 hB_o (by omega)) (fun r13 hc_r13 hp10 => ?_)
          replace hp10 : ((r13 = 1 ∧ (¬ o.1 2 x3.toNat = -1)) ∨ (r13 = 0 ∧ ¬ (¬ o.1 2 x3.toNat = -1))) := hp10
          refine T_qEq ⟨by omega, by omega⟩ ⟨by decide, by decide⟩ (fun h11 => ?_) (fun h11 => ?_)
          ·
            unfold b_X11_copy_57
            refine T_qB2 (t_X11_found o 1 hB_o (by omega)) (fun r1 o3 hc_r1 hp12 => ?_)
            replace hp12 : BoxC o3 ∧ (Fr [(0, 17), (77, 9999)] o o3) ∧ (r1 = -3) := hp12
            obtain ⟨hB_o3, fc_o3, hp12⟩ := hp12
            have fr_o3 : Fr [(0, 17), (3, 9999), (77, 9999)] o o3 := Fr.tr fr_o fc_o3 rfl
            refine T_some ?_
            show BoxC o3 ∧ (Fr [(0, 17), (3, 9999), (77, 9999)] o o3)
            exact ⟨hB_o3, fr_o3⟩
          ·
            refine T_qB (t_X8_holdsFrom o x1 x2 x5 hB_o (by omega) (by omega) (by omega)) (fun r15 hc_r15 hp13 => ?_)
            replace hp13 : ((r15 = 1 ∧ 0 ≤ x2 ∧ x2 ≤ o.1 2 x1.toNat - x5 ∧ o.1 2 x1.toNat ≤ 40) ∨ r15 = 0) := hp13
            refine T_qEq ⟨by omega, by omega⟩ ⟨by decide, by decide⟩ (fun h14 => ?_) (fun h14 => ?_)
            ·
              unfold b_X11_copy_92
              refine T_qB2 (t_X11_found o 2 hB_o (by omega)) (fun r4 o6 hc_r4 hp15 => ?_)
              replace hp15 : BoxC o6 ∧ (Fr [(0, 17), (77, 9999)] o o6) ∧ (r4 = -3) := hp15
              obtain ⟨hB_o6, fc_o6, hp15⟩ := hp15
              have fr_o6 : Fr [(0, 17), (3, 9999), (77, 9999)] o o6 := Fr.tr fr_o fc_o6 rfl
              refine T_some ?_
              show BoxC o6 ∧ (Fr [(0, 17), (3, 9999), (77, 9999)] o o6)
              exact ⟨hB_o6, fr_o6⟩
            ·
              refine T_qB (t_X8_holdsFrom o x3 x4 x5 hB_o (by omega) (by omega) (by omega)) (fun r17 hc_r17 hp16 => ?_)
              replace hp16 : ((r17 = 1 ∧ 0 ≤ x4 ∧ x4 ≤ o.1 2 x3.toNat - x5 ∧ o.1 2 x3.toNat ≤ 40) ∨ r17 = 0) := hp16
              refine T_qEq ⟨by omega, by omega⟩ ⟨by decide, by decide⟩ (fun h17 => ?_) (fun h17 => ?_)
              ·
                unfold b_X11_copy_92
                refine T_qB2 (t_X11_found o 2 hB_o (by omega)) (fun r4 o6 hc_r4 hp18 => ?_)
                replace hp18 : BoxC o6 ∧ (Fr [(0, 17), (77, 9999)] o o6) ∧ (r4 = -3) := hp18
                obtain ⟨hB_o6, fc_o6, hp18⟩ := hp18
                have fr_o6 : Fr [(0, 17), (3, 9999), (77, 9999)] o o6 := Fr.tr fr_o fc_o6 rfl
                refine T_some ?_
                show BoxC o6 ∧ (Fr [(0, 17), (3, 9999), (77, 9999)] o o6)
                exact ⟨hB_o6, fr_o6⟩
              ·
                refine T_qB (t_X8_transfer o x1 x2 x3 x4 x5 hB_o (by omega) (by omega) (by omega) (by omega) (by omega) (by omega) (by omega)) (fun o21 hc_o21 hp19 => ?_)
                replace hp19 : BoxC o21 ∧ (Fr [(3, 9999)] o o21) := hp19
                obtain ⟨hB_o21, fc_o21⟩ := hp19
                have fr_o21 : Fr [(0, 17), (3, 9999), (77, 9999)] o o21 := Fr.tr fr_o fc_o21 rfl
                refine T_some ?_
                show BoxC o21 ∧ (Fr [(0, 17), (3, 9999), (77, 9999)] o o21)
                exact ⟨hB_o21, fr_o21⟩
set_option maxRecDepth 20000 in
set_option maxHeartbeats 4000000 in
theorem t_X11_cost (o : OO) (x1 : Int) (hB_o : BoxC o) (k0 : inR x1) : T (s_X11_cost o x1) (fun v => BoxC v.2 ∧ (Fr [(0, 17), (77, 9999)] o v.2)) := by
  have fr_o : Fr [(0, 17), (77, 9999)] o o := Fr.rf
  have g32_13_o := bC_32_13 hB_o
  unfold s_X11_cost
  refine T_qB (t_X4_exists o x1 hB_o (by omega)) (fun r1 hc_r1 hp1 => ?_)
  replace hp1 : ((r1 = 1 ∧ (0 ≤ x1 ∧ x1 < o.1 32 13)) ∨ (r1 = 0 ∧ ¬ (0 ≤ x1 ∧ x1 < o.1 32 13))) := hp1
  refine T_qEq ⟨by omega, by omega⟩ ⟨by decide, by decide⟩ (fun h2 => ?_) (fun h2 => ?_)
  ·
    refine T_some ?_
    show BoxC o ∧ (Fr [(0, 17), (77, 9999)] o o)
    exact ⟨hB_o, fr_o⟩
  ·
    refine T_qB (t_X4_isOf o x1 1 hB_o (by omega) (by omega)) (fun r3 hc_r3 hp3 => ?_)
    replace hp3 : (0 ≤ r3 ∧ r3 ≤ 1) := hp3
    refine T_qEq ⟨by omega, by omega⟩ ⟨by decide, by decide⟩ (fun h4 => ?_) (fun h4 => ?_)
    ·
      refine T_qB2 (t_X11_found o 3 hB_o (by omega)) (fun r7 o9 hc_r7 hp5 => ?_)
      replace hp5 : BoxC o9 ∧ (Fr [(0, 17), (77, 9999)] o o9) ∧ (r7 = -3) := hp5
      obtain ⟨hB_o9, fc_o9, hp5⟩ := hp5
      have fr_o9 : Fr [(0, 17), (77, 9999)] o o9 := Fr.tr fr_o fc_o9 rfl
      have g32_13_o9 : o9.1 32 13 = o.1 32 13 := fc_o9.1 32 13 rfl
      refine T_some ?_
      show BoxC o9 ∧ (Fr [(0, 17), (77, 9999)] o o9)
      exact ⟨hB_o9, fr_o9⟩
    ·
      refine T_qB (t_X4_costOf o x1 hB_o (by omega)) (fun r5 hc_r5 hp6 => ?_)
      replace hp6 : (0 ≤ r5 ∧ r5 ≤ 1000000) := hp6
      refine T_some ?_
      show BoxC o ∧ (Fr [(0, 17), (77, 9999)] o o)
      exact ⟨hB_o, fr_o⟩
set_option maxRecDepth 20000 in
set_option maxHeartbeats 4000000 in
theorem t_X8_isThere__4 (o : OO) (x1 : Int) (hB_o : BoxC o) (k0 : 0 ≤ x1 ∧ x1 ≤ 5) : T (s_X8_isThere__4 o x1) (fun v => ((v = 1 ∧ (¬ o.1 5 x1.toNat = -1)) ∨ (v = 0 ∧ ¬ (¬ o.1 5 x1.toNat = -1)))) := by
  unfold s_X8_isThere__4
  refine T_qIn ⟨by omega, by omega⟩ ?_
  refine T_qNm (fun n2 e_n2 => ?_)
  have b_n2 : -1 ≤ n2 ∧ n2 ≤ 40 := by rw [e_n2]; exact bC_5 hB_o _
  refine T_qEq ⟨by omega, by omega⟩ ⟨by decide, by decide⟩ (fun h1 => ?_) (fun h1 => ?_)
  ·
    unfold b_X8_isThere__4_15
    refine T_qZ (Or.inl rfl) ?_
    refine T_some ?_
    show ((0 = 1 ∧ (¬ o.1 5 x1.toNat = -1)) ∨ (0 = 0 ∧ ¬ (¬ o.1 5 x1.toNat = -1)))
    exact (by omega)
  ·
    unfold b_X8_isThere__4_15
    refine T_qZ (Or.inr rfl) ?_
    refine T_some ?_
    show ((1 = 1 ∧ (¬ o.1 5 x1.toNat = -1)) ∨ (1 = 0 ∧ ¬ (¬ o.1 5 x1.toNat = -1)))
    exact (by omega)
set_option maxRecDepth 20000 in
set_option maxHeartbeats 4000000 in
theorem tl_X8_present_4 (o : OO) (i_x1 : Int) (i_x2 : Int) (hB_o : BoxC o) (v0 : 0 ≤ i_x1 ∧ i_x1 ≤ i_x2) (v1 : 0 ≤ i_x2 ∧ i_x2 ≤ o.1 4 0) : T (loopW (fun s => l_X8_present_4 o s.1 s.2) (i_x1, i_x2)) (fun r => (0 ≤ r ∧ r ≤ o.1 4 0)) := by
  refine T_loop (fun s => (0 ≤ s.1 ∧ s.1 ≤ s.2) ∧ (0 ≤ s.2 ∧ s.2 ≤ o.1 4 0)) (fun s => (o.1 4 0 - s.2).toNat) (by exact ⟨v0, v1⟩) (fun s hs => ?_)
  obtain ⟨x1, x2⟩ := s
  replace hs : (0 ≤ x1 ∧ x1 ≤ x2) ∧ (0 ≤ x2 ∧ x2 ≤ o.1 4 0) := hs
  obtain ⟨w0, w1⟩ := hs
  have g4_0_o := bC_4_0 hB_o
  show T (l_X8_present_4 o x1 x2) _
  unfold l_X8_present_4
  refine T_qLt ⟨by omega, by omega⟩ ⟨by omega, by omega⟩ (fun h1 => ?_) (fun h1 => ?_)
  ·
    refine T_qB (t_X8_isThere__4 o x2 hB_o (by omega)) (fun r1 hc_r1 hp2 => ?_)
    replace hp2 : ((r1 = 1 ∧ (¬ o.1 5 x2.toNat = -1)) ∨ (r1 = 0 ∧ ¬ (¬ o.1 5 x2.toNat = -1))) := hp2
    refine T_qEq ⟨by omega, by omega⟩ ⟨by decide, by decide⟩ (fun h3 => ?_) (fun h3 => ?_)
    ·
      unfold b_X8_present_23
      refine T_some ?_
      show ((0 ≤ x1 ∧ x1 ≤ (x2 + 1)) ∧ (0 ≤ (x2 + 1) ∧ (x2 + 1) ≤ o.1 4 0)) ∧ (o.1 4 0 - (x2 + 1)).toNat < (o.1 4 0 - x2).toNat
      exact ⟨⟨(by omega), (by omega)⟩, by omega⟩
    ·
      unfold b_X8_present_23
      refine T_some ?_
      show ((0 ≤ (x1 + 1) ∧ (x1 + 1) ≤ (x2 + 1)) ∧ (0 ≤ (x2 + 1) ∧ (x2 + 1) ≤ o.1 4 0)) ∧ (o.1 4 0 - (x2 + 1)).toNat < (o.1 4 0 - x2).toNat
      exact ⟨⟨(by omega), (by omega)⟩, by omega⟩
  ·
    refine T_some ?_
    show (0 ≤ x1 ∧ x1 ≤ o.1 4 0)
    exact (by omega)
set_option maxRecDepth 20000 in
set_option maxHeartbeats 4000000 in
theorem t_X8_present (o : OO) (hB_o : BoxC o) : T (s_X8_present o) (fun v => (0 ≤ v ∧ v ≤ 6)) := by
  have g4_0_o := bC_4_0 hB_o
  unfold s_X8_present
  unfold e_X8_present_4
  refine T_qB (tl_X8_present_4 o 0 0 hB_o (by omega) (by omega)) (fun r4 hc_r4 hp5 => ?_)
  obtain ⟨x1_6, q_x1_6⟩ : ∃ q, q = r4 := ⟨_, rfl⟩
  subst q_x1_6
  replace hp5 : (0 ≤ x1_6 ∧ x1_6 ≤ o.1 4 0) := hp5
  show T (b_X8_present_29 o x1_6) _
  unfold b_X8_present_29
  refine T_some ?_
  show (0 ≤ x1_6 ∧ x1_6 ≤ 6)
  exact (by omega)
set_option maxRecDepth 20000 in
set_option maxHeartbeats 4000000 in
theorem tl_X8_present__1_4 (o : OO) (i_x1 : Int) (i_x2 : Int) (hB_o : BoxC o) (v0 : 0 ≤ i_x1 ∧ i_x1 ≤ i_x2) (v1 : 0 ≤ i_x2 ∧ i_x2 ≤ o.1 1 0) : T (loopW (fun s => l_X8_present__1_4 o s.1 s.2) (i_x1, i_x2)) (fun r => (0 ≤ r ∧ r ≤ o.1 1 0)) := by
  refine T_loop (fun s => (0 ≤ s.1 ∧ s.1 ≤ s.2) ∧ (0 ≤ s.2 ∧ s.2 ≤ o.1 1 0)) (fun s => (o.1 1 0 - s.2).toNat) (by exact ⟨v0, v1⟩) (fun s hs => ?_)
  obtain ⟨x1, x2⟩ := s
  replace hs : (0 ≤ x1 ∧ x1 ≤ x2) ∧ (0 ≤ x2 ∧ x2 ≤ o.1 1 0) := hs
  obtain ⟨w0, w1⟩ := hs
  have g1_0_o := bC_1_0 hB_o
  show T (l_X8_present__1_4 o x1 x2) _
  unfold l_X8_present__1_4
  refine T_qLt ⟨by omega, by omega⟩ ⟨by omega, by omega⟩ (fun h1 => ?_) (fun h1 => ?_)
  ·
    refine T_qB (t_X8_isThere o x2 hB_o (by omega)) (fun r1 hc_r1 hp2 => ?_)
    replace hp2 : ((r1 = 1 ∧ (¬ o.1 2 x2.toNat = -1)) ∨ (r1 = 0 ∧ ¬ (¬ o.1 2 x2.toNat = -1))) := hp2
    refine T_qEq ⟨by omega, by omega⟩ ⟨by decide, by decide⟩ (fun h3 => ?_) (fun h3 => ?_)
    ·
      unfold b_X8_present__1_23
      refine T_some ?_
      show ((0 ≤ x1 ∧ x1 ≤ (x2 + 1)) ∧ (0 ≤ (x2 + 1) ∧ (x2 + 1) ≤ o.1 1 0)) ∧ (o.1 1 0 - (x2 + 1)).toNat < (o.1 1 0 - x2).toNat
      exact ⟨⟨(by omega), (by omega)⟩, by omega⟩
    ·
      unfold b_X8_present__1_23
      refine T_some ?_
      show ((0 ≤ (x1 + 1) ∧ (x1 + 1) ≤ (x2 + 1)) ∧ (0 ≤ (x2 + 1) ∧ (x2 + 1) ≤ o.1 1 0)) ∧ (o.1 1 0 - (x2 + 1)).toNat < (o.1 1 0 - x2).toNat
      exact ⟨⟨(by omega), (by omega)⟩, by omega⟩
  ·
    refine T_some ?_
    show (0 ≤ x1 ∧ x1 ≤ o.1 1 0)
    exact (by omega)
set_option maxRecDepth 20000 in
set_option maxHeartbeats 4000000 in
theorem t_X8_present__1 (o : OO) (hB_o : BoxC o) : T (s_X8_present__1 o) (fun v => (0 ≤ v ∧ v ≤ 6)) := by
  have g1_0_o := bC_1_0 hB_o
  unfold s_X8_present__1
  unfold e_X8_present__1_4
  refine T_qB (tl_X8_present__1_4 o 0 0 hB_o (by omega) (by omega)) (fun r4 hc_r4 hp5 => ?_)
  obtain ⟨x1_6, q_x1_6⟩ : ∃ q, q = r4 := ⟨_, rfl⟩
  subst q_x1_6
  replace hp5 : (0 ≤ x1_6 ∧ x1_6 ≤ o.1 1 0) := hp5
  show T (b_X8_present__1_29 o x1_6) _
  unfold b_X8_present__1_29
  refine T_some ?_
  show (0 ≤ x1_6 ∧ x1_6 ≤ 6)
  exact (by omega)
set_option maxRecDepth 20000 in
set_option maxHeartbeats 4000000 in
theorem t_X1_tellings (o : OO) (hB_o : BoxC o) : T (s_X1_tellings o) (fun v => (v = o.1 10 13)) := by
  have g10_13_o := bC_10_13 hB_o
  unfold s_X1_tellings
  refine T_some ?_
  show ((o.1 10 13) = o.1 10 13)
  exact (by omega)
set_option maxRecDepth 20000 in
set_option maxHeartbeats 4000000 in
theorem t_X7_number (o : OO) (hB_o : BoxC o) : T (s_X7_number o) (fun v => (v = o.1 28 3)) := by
  have g28_3_o := bC_28_3 hB_o
  unfold s_X7_number
  refine T_some ?_
  show ((o.1 28 3) = o.1 28 3)
  exact (by omega)
set_option maxRecDepth 20000 in
set_option maxHeartbeats 4000000 in
theorem tl_X5_homeless_4 (o : OO) (i_x1 : Int) (i_x2 : Int) (hB_o : BoxC o) (v0 : 0 ≤ i_x1 ∧ i_x1 ≤ i_x2) (v1 : 0 ≤ i_x2 ∧ i_x2 ≤ o.1 23 4) : T (loopW (fun s => l_X5_homeless_4 o s.1 s.2) (i_x1, i_x2)) (fun r => (0 ≤ r ∧ r ≤ o.1 23 4)) := by
  refine T_loop (fun s => (0 ≤ s.1 ∧ s.1 ≤ s.2) ∧ (0 ≤ s.2 ∧ s.2 ≤ o.1 23 4)) (fun s => (o.1 23 4 - s.2).toNat) (by exact ⟨v0, v1⟩) (fun s hs => ?_)
  obtain ⟨x1, x2⟩ := s
  replace hs : (0 ≤ x1 ∧ x1 ≤ x2) ∧ (0 ≤ x2 ∧ x2 ≤ o.1 23 4) := hs
  obtain ⟨w0, w1⟩ := hs
  have g23_4_o := bC_23_4 hB_o
  show T (l_X5_homeless_4 o x1 x2) _
  unfold l_X5_homeless_4
  refine T_qLt ⟨by omega, by omega⟩ ⟨by omega, by omega⟩ (fun h1 => ?_) (fun h1 => ?_)
  ·
    refine T_qIn ⟨by omega, by omega⟩ ?_
    refine T_qNm (fun n2 e_n2 => ?_)
    have b_n2 : n2 = -9 ∨ (0 ≤ n2 ∧ n2 ≤ 31) := by rw [e_n2]; exact bC_24 hB_o _
    refine T_qEq ⟨by omega, by omega⟩ ⟨by decide, by decide⟩ (fun h2 => ?_) (fun h2 => ?_)
    ·
      unfold b_X5_homeless_26
      refine T_some ?_
      show ((0 ≤ (x1 + 1) ∧ (x1 + 1) ≤ (x2 + 1)) ∧ (0 ≤ (x2 + 1) ∧ (x2 + 1) ≤ o.1 23 4)) ∧ (o.1 23 4 - (x2 + 1)).toNat < (o.1 23 4 - x2).toNat
      exact ⟨⟨(by omega), (by omega)⟩, by omega⟩
    ·
      unfold b_X5_homeless_26
      refine T_some ?_
      show ((0 ≤ x1 ∧ x1 ≤ (x2 + 1)) ∧ (0 ≤ (x2 + 1) ∧ (x2 + 1) ≤ o.1 23 4)) ∧ (o.1 23 4 - (x2 + 1)).toNat < (o.1 23 4 - x2).toNat
      exact ⟨⟨(by omega), (by omega)⟩, by omega⟩
  ·
    refine T_some ?_
    show (0 ≤ x1 ∧ x1 ≤ o.1 23 4)
    exact (by omega)
set_option maxRecDepth 20000 in
set_option maxHeartbeats 4000000 in
theorem t_X5_homeless (o : OO) (hB_o : BoxC o) : T (s_X5_homeless o) (fun v => (0 ≤ v ∧ v ≤ 40)) := by
  have g23_4_o := bC_23_4 hB_o
  unfold s_X5_homeless
  unfold e_X5_homeless_4
  refine T_qB (tl_X5_homeless_4 o 0 0 hB_o (by omega) (by omega)) (fun r3 hc_r3 hp4 => ?_)
  obtain ⟨x1_5, q_x1_5⟩ : ∃ q, q = r3 := ⟨_, rfl⟩
  subst q_x1_5
  replace hp4 : (0 ≤ x1_5 ∧ x1_5 ≤ o.1 23 4) := hp4
  show T (b_X5_homeless_32 o x1_5) _
  unfold b_X5_homeless_32
  refine T_some ?_
  show (0 ≤ x1_5 ∧ x1_5 ≤ 40)
  exact (by omega)
set_option maxRecDepth 20000 in
set_option maxHeartbeats 4000000 in
theorem t_X5_number (o : OO) (hB_o : BoxC o) : T (s_X5_number o) (fun v => (v = o.1 23 4)) := by
  have g23_4_o := bC_23_4 hB_o
  unfold s_X5_number
  refine T_some ?_
  show ((o.1 23 4) = o.1 23 4)
  exact (by omega)
set_option maxRecDepth 20000 in
set_option maxHeartbeats 4000000 in
theorem t_X3_bit (x0 : Int)  : T (s_X3_bit x0) (fun v => (v = jshl 1 (Int32.ofInt x0))) := by
  unfold s_X3_bit
  refine T_some ?_
  show ((jshl (1 : Int64) (Int32.ofInt x0)) = jshl 1 (Int32.ofInt x0))
  exact rfl
set_option maxRecDepth 20000 in
set_option maxHeartbeats 4000000 in
theorem tl_X1_standingCells_4 (o : OO) (i_z1 : Int64) (i_x3 : Int) (hB_o : BoxC o) (v0 : 0 ≤ i_x3 ∧ i_x3 ≤ o.1 10 12) (v1 : SCI o i_z1 i_x3) : T (loopW (fun s => l_X1_standingCells_4 o s.1 s.2) (i_z1, i_x3)) (fun r => (SCI o r (o.1 10 12))) := by
  refine T_loop (fun s => (0 ≤ s.2 ∧ s.2 ≤ o.1 10 12) ∧ (SCI o s.1 s.2)) (fun s => (o.1 10 12 - s.2).toNat) (by exact ⟨v0, v1⟩) (fun s hs => ?_)
  obtain ⟨z1, x3⟩ := s
  replace hs : (0 ≤ x3 ∧ x3 ≤ o.1 10 12) ∧ (SCI o z1 x3) := hs
  obtain ⟨w0, w1⟩ := hs
  have g10_12_o := bC_10_12 hB_o
  show T (l_X1_standingCells_4 o z1 x3) _
  unfold l_X1_standingCells_4
  refine T_qLt ⟨by omega, by omega⟩ ⟨by omega, by omega⟩ (fun h1 => ?_) (fun h1 => ?_)
  ·
    refine T_qIn ⟨by omega, by omega⟩ ?_
    refine T_qNm (fun n2 e_n2 => ?_)
    have b_n2 : 0 ≤ n2 ∧ n2 ≤ 1 := by rw [e_n2]; exact bC_17 hB_o _
    have ts2 : ¬ n2 = 0 → ¬ o.1 17 x3.toNat = 0 := fun e => by rw [← e_n2]; exact e
    refine T_qEq ⟨by omega, by omega⟩ ⟨by decide, by decide⟩ (fun h2 => ?_) (fun h2 => ?_)
    ·
      refine T_qIn ⟨by omega, by omega⟩ ?_
      refine T_qNm (fun n4 e_n4 => ?_)
      have b_n4 : 0 ≤ n4 ∧ n4 ≤ 63 := by rw [e_n4]; exact bC_11 hB_o _
      refine T_qB (t_X3_bit n4) (fun p5 hc_p5 hp3 => ?_)
      replace hp3 : (p5 = jshl 1 (Int32.ofInt n4)) := hp3
      have bp5 := hp3
      refine T_qNm (fun m7 e_m7 => ?_)
      have sc7 : SCI o m7 (x3 + 1) := by rw [e_m7, bp5]; exact SCI_s w1 (by omega) e_n4 (fun k => bC_11 hB_o k)
      unfold b_X1_standingCells_33
      refine T_some ?_
      show ((0 ≤ (x3 + 1) ∧ (x3 + 1) ≤ o.1 10 12) ∧ (SCI o m7 (x3 + 1))) ∧ (o.1 10 12 - (x3 + 1)).toNat < (o.1 10 12 - x3).toNat
      exact ⟨⟨(by omega), (by first | assumption | exact SCI_0 | exact SCI_no w1 (ts2 (by omega)) | (have q9 := w1; rwa [show x3 = o.1 10 12 by omega] at q9))⟩, by omega⟩
    ·
      unfold b_X1_standingCells_33
      refine T_some ?_
      show ((0 ≤ (x3 + 1) ∧ (x3 + 1) ≤ o.1 10 12) ∧ (SCI o z1 (x3 + 1))) ∧ (o.1 10 12 - (x3 + 1)).toNat < (o.1 10 12 - x3).toNat
      exact ⟨⟨(by omega), (by first | assumption | exact SCI_0 | exact SCI_no w1 (ts2 (by omega)) | (have q9 := w1; rwa [show x3 = o.1 10 12 by omega] at q9))⟩, by omega⟩
  ·
    refine T_some ?_
    show (SCI o z1 (o.1 10 12))
    exact (by first | assumption | exact SCI_0 | exact SCI_no w1 (ts2 (by omega)) | (have q9 := w1; rwa [show x3 = o.1 10 12 by omega] at q9))
set_option maxRecDepth 20000 in
set_option maxHeartbeats 4000000 in
theorem t_X1_standingCells (o : OO) (hB_o : BoxC o) : T (s_X1_standingCells o) (fun v => (SCI o v (o.1 10 12))) := by
  have g10_12_o := bC_10_12 hB_o
  unfold s_X1_standingCells
  refine T_qNm (fun m8 e_m8 => ?_)
  unfold e_X1_standingCells_4
  refine T_qB (tl_X1_standingCells_4 o m8 0 hB_o (by omega) (by first | assumption | exact SCI_0 | exact SCI_no w1 (ts2 (by omega)) | (have q9 := w1; rwa [show x3 = o.1 10 12 by omega] at q9))) (fun r4 hc_r4 hp5 => ?_)
  obtain ⟨z1_6, q_z1_6⟩ : ∃ q, q = r4 := ⟨_, rfl⟩
  subst q_z1_6
  replace hp5 : (SCI o z1_6 (o.1 10 12)) := hp5
  show T (b_X1_standingCells_39 o z1_6) _
  unfold b_X1_standingCells_39
  refine T_some ?_
  show (SCI o z1_6 (o.1 10 12))
  exact (by first | assumption | exact SCI_0 | exact SCI_no w1 (ts2 (by omega)) | (have q9 := w1; rwa [show x3 = o.1 10 12 by omega] at q9))
set_option maxRecDepth 20000 in
set_option maxHeartbeats 4000000 in
theorem t_J13_bitCount_95d88 (z0 : Int64)  : T (s_J13_bitCount_95d88 z0) (fun v => (inR v) ∧ (v = PC z0)) := by
  unfold s_J13_bitCount_95d88
  refine T_qNm (fun m1 e_m1 => ?_)
  refine T_qNm (fun m2 e_m2 => ?_)
  refine T_qNm (fun m3 e_m3 => ?_)
  refine T_qNm (fun m4 e_m4 => ?_)
  refine T_qNm (fun m5 e_m5 => ?_)
  refine T_qNm (fun m6 e_m6 => ?_)
  refine T_some ?_
  show (inR (jand (ji m6) 127)) ∧ ((jand (ji m6) 127) = PC z0)
  exact ⟨(jand_rng _ _), (popc e_m1 e_m2 e_m3 e_m4 e_m5 e_m6)⟩
set_option maxRecDepth 20000 in
set_option maxHeartbeats 4000000 in
theorem t_X1_standingIn (o : OO) (z1 : Int64) (hB_o : BoxC o) : T (s_X1_standingIn o z1) (fun v => (inR v) ∧ (STN o z1 v) ∧ (0 ≤ v ∧ v ≤ 64)) := by
  have g10_12_o := bC_10_12 hB_o
  unfold s_X1_standingIn
  refine T_qB (t_X1_standingCells o hB_o) (fun p1 hc_p1 hp1 => ?_)
  replace hp1 : (SCI o p1 (o.1 10 12)) := hp1
  have sp1 := hp1
  refine T_qB (t_J13_bitCount_95d88 (p1 &&& z1)) (fun r3 hc_r3 hp2 => ?_)
  replace hp2 : (inR r3) ∧ (r3 = PC (p1 &&& z1)) := hp2
  have hps_hp2 := hp2
  obtain ⟨hp2_0, hp2_1⟩ := hps_hp2
  replace hp2 := hid hp2
  have sr3 := hp2_1
  have pr3 := PC_rng (p1 &&& z1)
  refine T_some ?_
  show (inR r3) ∧ (STN o z1 r3) ∧ (0 ≤ r3 ∧ r3 ≤ 64)
  exact ⟨(by omega), ⟨p1, sp1, sr3⟩, (by omega)⟩
set_option maxRecDepth 20000 in
set_option maxHeartbeats 4000000 in
theorem t_X11_count (o : OO) (x1 : Int) (hB_o : BoxC o) (k0 : inR x1) : T (s_X11_count o x1) (fun _ => True) := by
  have g0_13_o := bC_0_13 hB_o
  have g10_13_o := bC_10_13 hB_o
  have g46_6_o := bC_46_6 hB_o
  have g32_13_o := bC_32_13 hB_o
  have g28_3_o := bC_28_3 hB_o
  have g23_4_o := bC_23_4 hB_o
  unfold s_X11_count
  refine T_qEq ⟨by omega, by omega⟩ ⟨by decide, by decide⟩ (fun h1 => ?_) (fun h1 => ?_)
  ·
    refine T_some ?_
    show True
    exact trivial
  ·
    refine T_qEq ⟨by omega, by omega⟩ ⟨by decide, by decide⟩ (fun h2 => ?_) (fun h2 => ?_)
    ·
      refine T_qB (t_X1_standingIn o (-1 : Int64) hB_o) (fun r1 hc_r1 hp3 => ?_)
      replace hp3 : (inR r1) ∧ (STN o (-1 : Int64) r1) ∧ (0 ≤ r1 ∧ r1 ≤ 64) := hp3
      have hps_hp3 := hp3
      obtain ⟨hp3_0, hp3_1, hp3_2⟩ := hps_hp3
      replace hp3 := hid hp3
      refine T_some ?_
      show True
      exact trivial
    ·
      refine T_qEq ⟨by omega, by omega⟩ ⟨by decide, by decide⟩ (fun h4 => ?_) (fun h4 => ?_)
      ·
        refine T_qB (t_X5_number o hB_o) (fun r3 hc_r3 hp5 => ?_)
        replace hp5 : (r3 = o.1 23 4) := hp5
        refine T_some ?_
        show True
        exact trivial
      ·
        refine T_qEq ⟨by omega, by omega⟩ ⟨by decide, by decide⟩ (fun h6 => ?_) (fun h6 => ?_)
        ·
          refine T_qB (t_X5_homeless o hB_o) (fun r5 hc_r5 hp7 => ?_)
          replace hp7 : (0 ≤ r5 ∧ r5 ≤ 40) := hp7
          refine T_some ?_
          show True
          exact trivial
        ·
          refine T_qEq ⟨by omega, by omega⟩ ⟨by decide, by decide⟩ (fun h8 => ?_) (fun h8 => ?_)
          ·
            refine T_qB (t_X7_number o hB_o) (fun r7 hc_r7 hp9 => ?_)
            replace hp9 : (r7 = o.1 28 3) := hp9
            refine T_some ?_
            show True
            exact trivial
          ·
            refine T_qEq ⟨by omega, by omega⟩ ⟨by decide, by decide⟩ (fun h10 => ?_) (fun h10 => ?_)
            ·
              refine T_qB (t_X4_number o hB_o) (fun r9 hc_r9 hp11 => ?_)
              replace hp11 : (r9 = o.1 32 13) := hp11
              refine T_some ?_
              show True
              exact trivial
            ·
              refine T_qEq ⟨by omega, by omega⟩ ⟨by decide, by decide⟩ (fun h12 => ?_) (fun h12 => ?_)
              ·
                refine T_qB (t_X2_buys o hB_o) (fun r11 hc_r11 hp13 => ?_)
                replace hp13 : (r11 = o.1 46 6) := hp13
                refine T_some ?_
                show True
                exact trivial
              ·
                refine T_qEq ⟨by omega, by omega⟩ ⟨by decide, by decide⟩ (fun h14 => ?_) (fun h14 => ?_)
                ·
                  refine T_qB (t_X1_tellings o hB_o) (fun r13 hc_r13 hp15 => ?_)
                  replace hp15 : (r13 = o.1 10 13) := hp15
                  refine T_some ?_
                  show True
                  exact trivial
                ·
                  refine T_qEq ⟨by omega, by omega⟩ ⟨by decide, by decide⟩ (fun h16 => ?_) (fun h16 => ?_)
                  ·
                    refine T_qB (t_X8_present__1 o hB_o) (fun r15 hc_r15 hp17 => ?_)
                    replace hp17 : (0 ≤ r15 ∧ r15 ≤ 6) := hp17
                    refine T_some ?_
                    show True
                    exact trivial
                  ·
                    refine T_qEq ⟨by omega, by omega⟩ ⟨by decide, by decide⟩ (fun h18 => ?_) (fun h18 => ?_)
                    ·
                      refine T_qB (t_X8_present o hB_o) (fun r17 hc_r17 hp19 => ?_)
                      replace hp19 : (0 ≤ r17 ∧ r17 ≤ 6) := hp19
                      refine T_some ?_
                      show True
                      exact trivial
                    ·
                      refine T_some ?_
                      show True
                      exact trivial
set_option maxRecDepth 20000 in
set_option maxHeartbeats 4000000 in
theorem tl_X3_hash_2 (o : OO) (i_z1 : Int64) (i_x3 : Int) (hB_o : BoxC o) (v0 : 0 ≤ i_x3 ∧ i_x3 ≤ 64) : T (loopW (fun s => l_X3_hash_2 o s.1 s.2) (i_z1, i_x3)) (fun r => True) := by
  refine T_loop (fun s => (0 ≤ s.2 ∧ s.2 ≤ 64)) (fun s => (64 - s.2).toNat) (by exact v0) (fun s hs => ?_)
  obtain ⟨z1, x3⟩ := s
  replace hs : (0 ≤ x3 ∧ x3 ≤ 64) := hs
  have w0 := hs
  show T (l_X3_hash_2 o z1 x3) _
  unfold l_X3_hash_2
  refine T_qLt ⟨by omega, by omega⟩ ⟨by decide, by decide⟩ (fun h1 => ?_) (fun h1 => ?_)
  ·
    refine T_qIn ⟨by omega, by omega⟩ ?_
    refine T_qNm (fun n2 e_n2 => ?_)
    have b_n2 : 0 ≤ n2 ∧ n2 ≤ 4 := by rw [e_n2]; exact bC_8 hB_o _
    refine T_qNm (fun m3 e_m3 => ?_)
    refine T_qIn ⟨by omega, by omega⟩ ?_
    refine T_qNm (fun n5 e_n5 => ?_)
    have b_n5 : 0 ≤ n5 ∧ n5 ≤ 99 := by rw [e_n5]; exact bC_9 hB_o _
    refine T_qNm (fun m6 e_m6 => ?_)
    refine T_some ?_
    show ((0 ≤ (x3 + 1) ∧ (x3 + 1) ≤ 64)) ∧ (64 - (x3 + 1)).toNat < (64 - x3).toNat
    exact ⟨(by omega), by omega⟩
  ·
    refine T_some ?_
    show True
    exact trivial
set_option maxRecDepth 20000 in
set_option maxHeartbeats 4000000 in
theorem t_X3_hash (o : OO) (z1 : Int64) (hB_o : BoxC o) : T (s_X3_hash o z1) (fun _ => True) := by
  unfold s_X3_hash
  unfold e_X3_hash_2
  refine T_qB (tl_X3_hash_2 o z1 0 hB_o (by omega)) (fun r2 hc_r2 hp3 => ?_)
  obtain ⟨z1_4, q_z1_4⟩ : ∃ q, q = r2 := ⟨_, rfl⟩
  subst q_z1_4
  show T (b_X3_hash_42 o z1_4) _
  unfold b_X3_hash_42
  refine T_some ?_
  show True
  exact trivial
set_option maxRecDepth 20000 in
set_option maxHeartbeats 4000000 in
theorem t_X1_trait (o : OO) (x1 : Int) (x2 : Int) (hB_o : BoxC o) (k0 : 0 ≤ x1 ∧ x1 ≤ 31) (k1 : inR x2) : T (s_X1_trait o x1 x2) (fun v => (inR v)) := by
  unfold s_X1_trait
  refine T_qEq ⟨by omega, by omega⟩ ⟨by decide, by decide⟩ (fun h1 => ?_) (fun h1 => ?_)
  ·
    refine T_qIn ⟨by omega, by omega⟩ ?_
    refine T_qNm (fun n2 e_n2 => ?_)
    have b_n2 : 0 ≤ n2 ∧ n2 ≤ 63 := by rw [e_n2]; exact bC_11 hB_o _
    refine T_some ?_
    show (inR n2)
    exact (by omega)
  ·
    refine T_qEq ⟨by omega, by omega⟩ ⟨by decide, by decide⟩ (fun h2 => ?_) (fun h2 => ?_)
    ·
      refine T_qIn ⟨by omega, by omega⟩ ?_
      refine T_qNm (fun n4 e_n4 => ?_)
      have b_n4 : 0 ≤ n4 ∧ n4 ≤ 2 := by rw [e_n4]; exact bC_12 hB_o _
      refine T_some ?_
      show (inR n4)
      exact (by omega)
    ·
      refine T_qEq ⟨by omega, by omega⟩ ⟨by decide, by decide⟩ (fun h3 => ?_) (fun h3 => ?_)
      ·
        refine T_qIn ⟨by omega, by omega⟩ ?_
        refine T_qNm (fun n6 e_n6 => ?_)
        have b_n6 : 0 ≤ n6 ∧ n6 ≤ 20 := by rw [e_n6]; exact bC_13 hB_o _
        refine T_some ?_
        show (inR n6)
        exact (by omega)
      ·
        refine T_qEq ⟨by omega, by omega⟩ ⟨by decide, by decide⟩ (fun h4 => ?_) (fun h4 => ?_)
        ·
          refine T_qIn ⟨by omega, by omega⟩ ?_
          refine T_qNm (fun n8 e_n8 => ?_)
          have b_n8 : 0 ≤ n8 ∧ n8 ≤ 40 := by rw [e_n8]; exact bC_14 hB_o _
          refine T_some ?_
          show (inR n8)
          exact (by omega)
        ·
          refine T_qEq ⟨by omega, by omega⟩ ⟨by decide, by decide⟩ (fun h5 => ?_) (fun h5 => ?_)
          ·
            refine T_qIn ⟨by omega, by omega⟩ ?_
            refine T_qNm (fun n10 e_n10 => ?_)
            have b_n10 : 0 ≤ n10 ∧ n10 ≤ 1 := by rw [e_n10]; exact bC_17 hB_o _
            refine T_qEq ⟨by omega, by omega⟩ ⟨by decide, by decide⟩ (fun h6 => ?_) (fun h6 => ?_)
            ·
              unfold b_X1_trait_78
              refine T_some ?_
              show (inR 0)
              exact (by omega)
            ·
              unfold b_X1_trait_78
              refine T_some ?_
              show (inR 1)
              exact (by omega)
          ·
            refine T_qIn ⟨by omega, by omega⟩ ?_
            refine T_qNm (fun n12 e_n12 => ?_)
            have b_n12 : -9 ≤ n12 ∧ n12 ≤ 39 := by rw [e_n12]; exact bC_15 hB_o _
            refine T_some ?_
            show (inR n12)
            exact (by omega)
set_option maxRecDepth 20000 in
set_option maxHeartbeats 4000000 in
theorem tl_X1_hash_13 (o : OO) (x3 : Int) (i_z1 : Int64) (i_x4 : Int) (hB_o : BoxC o) (k0 : 0 ≤ x3 ∧ x3 ≤ o.1 10 12) (k1 : x3 < o.1 10 12) (v0 : 0 ≤ i_x4 ∧ i_x4 ≤ 6) : T (loopW (fun s => l_X1_hash_13 o x3 s.1 s.2) (i_z1, i_x4)) (fun r => True) := by
  refine T_loop (fun s => (0 ≤ s.2 ∧ s.2 ≤ 6)) (fun s => (6 - s.2).toNat) (by exact v0) (fun s hs => ?_)
  obtain ⟨z1, x4⟩ := s
  replace hs : (0 ≤ x4 ∧ x4 ≤ 6) := hs
  have w0 := hs
  have g10_12_o := bC_10_12 hB_o
  show T (l_X1_hash_13 o x3 z1 x4) _
  unfold l_X1_hash_13
  refine T_qLt ⟨by decide, by decide⟩ ⟨by omega, by omega⟩ (fun h1 => ?_) (fun h1 => ?_)
  ·
    refine T_some ?_
    show True
    exact trivial
  ·
    refine T_qB (t_X1_trait o x3 x4 hB_o (by omega) (by omega)) (fun r4 hc_r4 hp2 => ?_)
    replace hp2 : (inR r4) := hp2
    refine T_qNm (fun m6 e_m6 => ?_)
    refine T_some ?_
    show ((0 ≤ (x4 + 1) ∧ (x4 + 1) ≤ 6)) ∧ (6 - (x4 + 1)).toNat < (6 - x4).toNat
    exact ⟨(by omega), by omega⟩
set_option maxRecDepth 20000 in
set_option maxHeartbeats 4000000 in
theorem tl_X1_hash_2 (o : OO) (i_z1 : Int64) (i_x3 : Int) (hB_o : BoxC o) (v0 : 0 ≤ i_x3 ∧ i_x3 ≤ o.1 10 12) : T (loopW (fun s => l_X1_hash_2 o s.1 s.2) (i_z1, i_x3)) (fun r => True) := by
  refine T_loop (fun s => (0 ≤ s.2 ∧ s.2 ≤ o.1 10 12)) (fun s => (o.1 10 12 - s.2).toNat) (by exact v0) (fun s hs => ?_)
  obtain ⟨z1, x3⟩ := s
  replace hs : (0 ≤ x3 ∧ x3 ≤ o.1 10 12) := hs
  have w0 := hs
  have g10_12_o := bC_10_12 hB_o
  show T (l_X1_hash_2 o z1 x3) _
  unfold l_X1_hash_2
  refine T_qLt ⟨by omega, by omega⟩ ⟨by omega, by omega⟩ (fun h3 => ?_) (fun h3 => ?_)
  ·
    unfold e_X1_hash_13
    refine T_qB (tl_X1_hash_13 o x3 z1 0 hB_o (by omega) (by omega) (by omega)) (fun r4 hc_r4 hp5 => ?_)
    obtain ⟨z1_6, q_z1_6⟩ : ∃ q, q = r4 := ⟨_, rfl⟩
    subst q_z1_6
    show T (b_X1_hash_40 o z1_6 x3) _
    unfold b_X1_hash_40
    refine T_qIn ⟨by omega, by omega⟩ ?_
    refine T_qNm (fun n2 e_n2 => ?_)
    have b_n2 : 0 ≤ n2 ∧ n2 ≤ 100000 := by rw [e_n2]; exact bC_16 hB_o _
    refine T_qNm (fun m3 e_m3 => ?_)
    refine T_some ?_
    show ((0 ≤ (x3 + 1) ∧ (x3 + 1) ≤ o.1 10 12)) ∧ (o.1 10 12 - (x3 + 1)).toNat < (o.1 10 12 - x3).toNat
    exact ⟨(by omega), by omega⟩
  ·
    refine T_some ?_
    show True
    exact trivial
set_option maxRecDepth 20000 in
set_option maxHeartbeats 4000000 in
theorem t_X1_hash (o : OO) (z1 : Int64) (hB_o : BoxC o) : T (s_X1_hash o z1) (fun _ => True) := by
  have g10_12_o := bC_10_12 hB_o
  unfold s_X1_hash
  unfold e_X1_hash_2
  refine T_qB (tl_X1_hash_2 o z1 0 hB_o (by omega)) (fun r7 hc_r7 hp8 => ?_)
  obtain ⟨z1_9, q_z1_9⟩ : ∃ q, q = r7 := ⟨_, rfl⟩
  subst q_z1_9
  show T (b_X1_hash_60 o z1_9) _
  unfold b_X1_hash_60
  refine T_some ?_
  show True
  exact trivial
set_option maxRecDepth 20000 in
set_option maxHeartbeats 4000000 in
theorem t_X5_trait (o : OO) (x1 : Int) (x2 : Int) (hB_o : BoxC o) (k0 : 0 ≤ x1 ∧ x1 ≤ 39) (k1 : inR x2) : T (s_X5_trait o x1 x2) (fun v => (inR v)) := by
  unfold s_X5_trait
  refine T_qEq ⟨by omega, by omega⟩ ⟨by decide, by decide⟩ (fun h1 => ?_) (fun h1 => ?_)
  ·
    refine T_qIn ⟨by omega, by omega⟩ ?_
    refine T_qNm (fun n2 e_n2 => ?_)
    have b_n2 : n2 = -9 ∨ (0 ≤ n2 ∧ n2 ≤ 31) := by rw [e_n2]; exact bC_24 hB_o _
    refine T_some ?_
    show (inR n2)
    exact (by omega)
  ·
    refine T_qEq ⟨by omega, by omega⟩ ⟨by decide, by decide⟩ (fun h2 => ?_) (fun h2 => ?_)
    ·
      refine T_qIn ⟨by omega, by omega⟩ ?_
      refine T_qNm (fun n4 e_n4 => ?_)
      have b_n4 : n4 = -9 ∨ (0 ≤ n4 ∧ n4 ≤ 63) := by rw [e_n4]; exact bC_25 hB_o _
      refine T_some ?_
      show (inR n4)
      exact (by omega)
    ·
      refine T_qEq ⟨by omega, by omega⟩ ⟨by decide, by decide⟩ (fun h3 => ?_) (fun h3 => ?_)
      ·
        refine T_qIn ⟨by omega, by omega⟩ ?_
        refine T_qNm (fun n6 e_n6 => ?_)
        have b_n6 : 0 ≤ n6 ∧ n6 ≤ 1 := by rw [e_n6]; exact bC_26 hB_o _
        refine T_qEq ⟨by omega, by omega⟩ ⟨by decide, by decide⟩ (fun h4 => ?_) (fun h4 => ?_)
        ·
          unfold b_X5_trait_56
          refine T_some ?_
          show (inR 0)
          exact (by omega)
        ·
          unfold b_X5_trait_56
          refine T_some ?_
          show (inR 1)
          exact (by omega)
      ·
        refine T_qIn ⟨by omega, by omega⟩ ?_
        refine T_qNm (fun n8 e_n8 => ?_)
        have b_n8 : 0 ≤ n8 ∧ n8 ≤ 9 := by rw [e_n8]; exact bC_27 hB_o _
        refine T_some ?_
        show (inR n8)
        exact (by omega)
set_option maxRecDepth 20000 in
set_option maxHeartbeats 4000000 in
theorem tl_X5_hash_13 (o : OO) (x3 : Int) (i_z1 : Int64) (i_x4 : Int) (hB_o : BoxC o) (k0 : 0 ≤ x3 ∧ x3 ≤ o.1 23 4) (k1 : x3 < o.1 23 4) (v0 : 0 ≤ i_x4 ∧ i_x4 ≤ 4) : T (loopW (fun s => l_X5_hash_13 o x3 s.1 s.2) (i_z1, i_x4)) (fun r => True) := by
  refine T_loop (fun s => (0 ≤ s.2 ∧ s.2 ≤ 4)) (fun s => (4 - s.2).toNat) (by exact v0) (fun s hs => ?_)
  obtain ⟨z1, x4⟩ := s
  replace hs : (0 ≤ x4 ∧ x4 ≤ 4) := hs
  have w0 := hs
  have g23_4_o := bC_23_4 hB_o
  show T (l_X5_hash_13 o x3 z1 x4) _
  unfold l_X5_hash_13
  refine T_qLt ⟨by decide, by decide⟩ ⟨by omega, by omega⟩ (fun h1 => ?_) (fun h1 => ?_)
  ·
    refine T_some ?_
    show True
    exact trivial
  ·
    refine T_qB (t_X5_trait o x3 x4 hB_o (by omega) (by omega)) (fun r1 hc_r1 hp2 => ?_)
    replace hp2 : (inR r1) := hp2
    refine T_qNm (fun m3 e_m3 => ?_)
    refine T_some ?_
    show ((0 ≤ (x4 + 1) ∧ (x4 + 1) ≤ 4)) ∧ (4 - (x4 + 1)).toNat < (4 - x4).toNat
    exact ⟨(by omega), by omega⟩
set_option maxRecDepth 20000 in
set_option maxHeartbeats 4000000 in
theorem tl_X5_hash_2 (o : OO) (i_z1 : Int64) (i_x3 : Int) (hB_o : BoxC o) (v0 : 0 ≤ i_x3 ∧ i_x3 ≤ o.1 23 4) : T (loopW (fun s => l_X5_hash_2 o s.1 s.2) (i_z1, i_x3)) (fun r => True) := by
  refine T_loop (fun s => (0 ≤ s.2 ∧ s.2 ≤ o.1 23 4)) (fun s => (o.1 23 4 - s.2).toNat) (by exact v0) (fun s hs => ?_)
  obtain ⟨z1, x3⟩ := s
  replace hs : (0 ≤ x3 ∧ x3 ≤ o.1 23 4) := hs
  have w0 := hs
  have g23_4_o := bC_23_4 hB_o
  show T (l_X5_hash_2 o z1 x3) _
  unfold l_X5_hash_2
  refine T_qLt ⟨by omega, by omega⟩ ⟨by omega, by omega⟩ (fun h3 => ?_) (fun h3 => ?_)
  ·
    unfold e_X5_hash_13
    refine T_qB (tl_X5_hash_13 o x3 z1 0 hB_o (by omega) (by omega) (by omega)) (fun r4 hc_r4 hp5 => ?_)
    obtain ⟨z1_6, q_z1_6⟩ : ∃ q, q = r4 := ⟨_, rfl⟩
    subst q_z1_6
    show T (b_X5_hash_40 o z1_6 x3) _
    unfold b_X5_hash_40
    refine T_some ?_
    show ((0 ≤ (x3 + 1) ∧ (x3 + 1) ≤ o.1 23 4)) ∧ (o.1 23 4 - (x3 + 1)).toNat < (o.1 23 4 - x3).toNat
    exact ⟨(by omega), by omega⟩
  ·
    refine T_some ?_
    show True
    exact trivial
set_option maxRecDepth 20000 in
set_option maxHeartbeats 4000000 in
theorem t_X5_hash (o : OO) (z1 : Int64) (hB_o : BoxC o) : T (s_X5_hash o z1) (fun _ => True) := by
  have g23_4_o := bC_23_4 hB_o
  unfold s_X5_hash
  unfold e_X5_hash_2
  refine T_qB (tl_X5_hash_2 o z1 0 hB_o (by omega)) (fun r7 hc_r7 hp8 => ?_)
  obtain ⟨z1_9, q_z1_9⟩ : ∃ q, q = r7 := ⟨_, rfl⟩
  subst q_z1_9
  show T (b_X5_hash_46 o z1_9) _
  unfold b_X5_hash_46
  refine T_some ?_
  show True
  exact trivial
set_option maxRecDepth 20000 in
set_option maxHeartbeats 4000000 in
theorem tl_X7_hash_2 (o : OO) (i_z1 : Int64) (i_x3 : Int) (hB_o : BoxC o) (v0 : 0 ≤ i_x3 ∧ i_x3 ≤ o.1 28 3) : T (loopW (fun s => l_X7_hash_2 o s.1 s.2) (i_z1, i_x3)) (fun r => True) := by
  refine T_loop (fun s => (0 ≤ s.2 ∧ s.2 ≤ o.1 28 3)) (fun s => (o.1 28 3 - s.2).toNat) (by exact v0) (fun s hs => ?_)
  obtain ⟨z1, x3⟩ := s
  replace hs : (0 ≤ x3 ∧ x3 ≤ o.1 28 3) := hs
  have w0 := hs
  have g28_3_o := bC_28_3 hB_o
  show T (l_X7_hash_2 o z1 x3) _
  unfold l_X7_hash_2
  refine T_qLt ⟨by omega, by omega⟩ ⟨by omega, by omega⟩ (fun h1 => ?_) (fun h1 => ?_)
  ·
    refine T_qIn ⟨by omega, by omega⟩ ?_
    refine T_qNm (fun n2 e_n2 => ?_)
    have b_n2 : 0 ≤ n2 ∧ n2 ≤ 999 := by rw [e_n2]; exact bC_29 hB_o _
    refine T_qNm (fun m3 e_m3 => ?_)
    refine T_qIn ⟨by omega, by omega⟩ ?_
    refine T_qNm (fun n5 e_n5 => ?_)
    have b_n5 : 0 ≤ n5 ∧ n5 ≤ 999 := by rw [e_n5]; exact bC_30 hB_o _
    refine T_qNm (fun m6 e_m6 => ?_)
    refine T_some ?_
    show ((0 ≤ (x3 + 1) ∧ (x3 + 1) ≤ o.1 28 3)) ∧ (o.1 28 3 - (x3 + 1)).toNat < (o.1 28 3 - x3).toNat
    exact ⟨(by omega), by omega⟩
  ·
    refine T_some ?_
    show True
    exact trivial
set_option maxRecDepth 20000 in
set_option maxHeartbeats 4000000 in
theorem t_X7_hash (o : OO) (z1 : Int64) (hB_o : BoxC o) : T (s_X7_hash o z1) (fun _ => True) := by
  have g28_3_o := bC_28_3 hB_o
  unfold s_X7_hash
  unfold e_X7_hash_2
  refine T_qB (tl_X7_hash_2 o z1 0 hB_o (by omega)) (fun r2 hc_r2 hp3 => ?_)
  obtain ⟨z1_4, q_z1_4⟩ : ∃ q, q = r2 := ⟨_, rfl⟩
  subst q_z1_4
  show T (b_X7_hash_44 o z1_4) _
  unfold b_X7_hash_44
  refine T_some ?_
  show True
  exact trivial
set_option maxRecDepth 20000 in
set_option maxHeartbeats 4000000 in
theorem t_X4_trait (o : OO) (x1 : Int) (x2 : Int) (hB_o : BoxC o) (k0 : 0 ≤ x1 ∧ x1 ≤ 23) (k1 : inR x2) : T (s_X4_trait o x1 x2) (fun v => (inR v)) := by
  unfold s_X4_trait
  refine T_qEq ⟨by omega, by omega⟩ ⟨by decide, by decide⟩ (fun h1 => ?_) (fun h1 => ?_)
  ·
    refine T_qIn ⟨by omega, by omega⟩ ?_
    refine T_qNm (fun n2 e_n2 => ?_)
    have b_n2 : 0 ≤ n2 ∧ n2 ≤ 6 := by rw [e_n2]; exact bC_33 hB_o _
    refine T_some ?_
    show (inR n2)
    exact (by omega)
  ·
    refine T_qEq ⟨by omega, by omega⟩ ⟨by decide, by decide⟩ (fun h2 => ?_) (fun h2 => ?_)
    ·
      refine T_qIn ⟨by omega, by omega⟩ ?_
      refine T_qNm (fun n4 e_n4 => ?_)
      have b_n4 : 0 ≤ n4 ∧ n4 ≤ 999 := by rw [e_n4]; exact bC_34 hB_o _
      refine T_some ?_
      show (inR n4)
      exact (by omega)
    ·
      refine T_qIn ⟨by omega, by omega⟩ ?_
      refine T_qNm (fun n6 e_n6 => ?_)
      have b_n6 : -9 ≤ n6 ∧ n6 ≤ 23 := by rw [e_n6]; exact bC_35 hB_o _
      refine T_some ?_
      show (inR n6)
      exact (by omega)
set_option maxRecDepth 20000 in
set_option maxHeartbeats 4000000 in
theorem tl_X4_hash_13 (o : OO) (x3 : Int) (i_z1 : Int64) (i_x4 : Int) (hB_o : BoxC o) (k0 : 0 ≤ x3 ∧ x3 ≤ o.1 32 13) (k1 : x3 < o.1 32 13) (v0 : 0 ≤ i_x4 ∧ i_x4 ≤ 3) : T (loopW (fun s => l_X4_hash_13 o x3 s.1 s.2) (i_z1, i_x4)) (fun r => True) := by
  refine T_loop (fun s => (0 ≤ s.2 ∧ s.2 ≤ 3)) (fun s => (3 - s.2).toNat) (by exact v0) (fun s hs => ?_)
  obtain ⟨z1, x4⟩ := s
  replace hs : (0 ≤ x4 ∧ x4 ≤ 3) := hs
  have w0 := hs
  have g32_13_o := bC_32_13 hB_o
  show T (l_X4_hash_13 o x3 z1 x4) _
  unfold l_X4_hash_13
  refine T_qLt ⟨by decide, by decide⟩ ⟨by omega, by omega⟩ (fun h1 => ?_) (fun h1 => ?_)
  ·
    refine T_some ?_
    show True
    exact trivial
  ·
    refine T_qB (t_X4_trait o x3 x4 hB_o (by omega) (by omega)) (fun r14 hc_r14 hp2 => ?_)
    replace hp2 : (inR r14) := hp2
    refine T_qNm (fun m16 e_m16 => ?_)
    refine T_some ?_
    show ((0 ≤ (x4 + 1) ∧ (x4 + 1) ≤ 3)) ∧ (3 - (x4 + 1)).toNat < (3 - x4).toNat
    exact ⟨(by omega), by omega⟩
set_option maxRecDepth 20000 in
set_option maxHeartbeats 4000000 in
theorem tl_X4_hash_83 (o : OO) (x3 : Int) (i_z1 : Int64) (i_x4 : Int) (hB_o : BoxC o) (k0 : 0 ≤ x3 ∧ x3 ≤ o.1 32 13) (k1 : x3 < o.1 32 13) (v0 : 0 ≤ i_x4 ∧ i_x4 ≤ 64) : T (loopW (fun s => l_X4_hash_83 o x3 s.1 s.2) (i_z1, i_x4)) (fun r => True) := by
  refine T_loop (fun s => (0 ≤ s.2 ∧ s.2 ≤ 64)) (fun s => (64 - s.2).toNat) (by exact v0) (fun s hs => ?_)
  obtain ⟨z1, x4⟩ := s
  replace hs : (0 ≤ x4 ∧ x4 ≤ 64) := hs
  have w0 := hs
  have g32_13_o := bC_32_13 hB_o
  show T (l_X4_hash_83 o x3 z1 x4) _
  unfold l_X4_hash_83
  refine T_qIn ⟨by omega, by omega⟩ ?_
  refine T_qNm (fun n2 e_n2 => ?_)
  have b_n2 : 0 ≤ n2 ∧ n2 ≤ 64 := by rw [e_n2]; exact bC_36 hB_o _
  refine T_qLt ⟨by omega, by omega⟩ ⟨by omega, by omega⟩ (fun h3 => ?_) (fun h3 => ?_)
  ·
    refine T_qB (t_X4_cellAt o x3 x4 hB_o (by omega) (by omega)) (fun r3 hc_r3 hp4 => ?_)
    replace hp4 : (-9 ≤ r3 ∧ r3 ≤ 63) := hp4
    refine T_qNm (fun m5 e_m5 => ?_)
    refine T_some ?_
    show ((0 ≤ (x4 + 1) ∧ (x4 + 1) ≤ 64)) ∧ (64 - (x4 + 1)).toNat < (64 - x4).toNat
    exact ⟨(by omega), by omega⟩
  ·
    refine T_some ?_
    show True
    exact trivial
set_option maxRecDepth 20000 in
set_option maxHeartbeats 4000000 in
theorem tl_X4_hash_2 (o : OO) (i_z1 : Int64) (i_x3 : Int) (hB_o : BoxC o) (v0 : 0 ≤ i_x3 ∧ i_x3 ≤ o.1 32 13) : T (loopW (fun s => l_X4_hash_2 o s.1 s.2) (i_z1, i_x3)) (fun r => True) := by
  refine T_loop (fun s => (0 ≤ s.2 ∧ s.2 ≤ o.1 32 13)) (fun s => (o.1 32 13 - s.2).toNat) (by exact v0) (fun s hs => ?_)
  obtain ⟨z1, x3⟩ := s
  replace hs : (0 ≤ x3 ∧ x3 ≤ o.1 32 13) := hs
  have w0 := hs
  have g32_13_o := bC_32_13 hB_o
  show T (l_X4_hash_2 o z1 x3) _
  unfold l_X4_hash_2
  refine T_qLt ⟨by omega, by omega⟩ ⟨by omega, by omega⟩ (fun h5 => ?_) (fun h5 => ?_)
  ·
    unfold e_X4_hash_13
    refine T_qB (tl_X4_hash_13 o x3 z1 0 hB_o (by omega) (by omega) (by omega)) (fun r6 hc_r6 hp7 => ?_)
    obtain ⟨z1_8, q_z1_8⟩ : ∃ q, q = r6 := ⟨_, rfl⟩
    subst q_z1_8
    show T (b_X4_hash_40 o z1_8 x3) _
    unfold b_X4_hash_40
    refine T_qB (t_X4_isOf o x3 1 hB_o (by omega) (by omega)) (fun r6 hc_r6 hp9 => ?_)
    replace hp9 : (0 ≤ r6 ∧ r6 ≤ 1) := hp9
    refine T_qEq ⟨by omega, by omega⟩ ⟨by decide, by decide⟩ (fun h10 => ?_) (fun h10 => ?_)
    ·
      unfold b_X4_hash_115
      refine T_some ?_
      show ((0 ≤ (x3 + 1) ∧ (x3 + 1) ≤ o.1 32 13)) ∧ (o.1 32 13 - (x3 + 1)).toNat < (o.1 32 13 - x3).toNat
      exact ⟨(by omega), by omega⟩
    ·
      refine T_qIn ⟨by omega, by omega⟩ ?_
      refine T_qNm (fun n9 e_n9 => ?_)
      have b_n9 : 0 ≤ n9 ∧ n9 ≤ 1000000 := by rw [e_n9]; exact bC_39 hB_o _
      refine T_qNm (fun m10 e_m10 => ?_)
      refine T_qIn ⟨by omega, by omega⟩ ?_
      refine T_qNm (fun n12 e_n12 => ?_)
      have b_n12 : -9 ≤ n12 ∧ n12 ≤ 999 := by rw [e_n12]; exact bC_40 hB_o _
      refine T_qNm (fun m13 e_m13 => ?_)
      unfold e_X4_hash_83
      refine T_qB (tl_X4_hash_83 o x3 m13 0 hB_o (by omega) (by omega) (by omega)) (fun r11 hc_r11 hp12 => ?_)
      obtain ⟨z1_13, q_z1_13⟩ : ∃ q, q = r11 := ⟨_, rfl⟩
      subst q_z1_13
      show T (b_X4_hash_115 o z1_13 x3) _
      unfold b_X4_hash_115
      refine T_some ?_
      show ((0 ≤ (x3 + 1) ∧ (x3 + 1) ≤ o.1 32 13)) ∧ (o.1 32 13 - (x3 + 1)).toNat < (o.1 32 13 - x3).toNat
      exact ⟨(by omega), by omega⟩
  ·
    refine T_some ?_
    show True
    exact trivial
set_option maxRecDepth 20000 in
set_option maxHeartbeats 4000000 in
theorem t_X4_hash (o : OO) (z1 : Int64) (hB_o : BoxC o) : T (s_X4_hash o z1) (fun _ => True) := by
  have g32_13_o := bC_32_13 hB_o
  unfold s_X4_hash
  unfold e_X4_hash_2
  refine T_qB (tl_X4_hash_2 o z1 0 hB_o (by omega)) (fun r14 hc_r14 hp15 => ?_)
  obtain ⟨z1_16, q_z1_16⟩ : ∃ q, q = r14 := ⟨_, rfl⟩
  subst q_z1_16
  show T (b_X4_hash_121 o z1_16) _
  unfold b_X4_hash_121
  refine T_some ?_
  show True
  exact trivial
set_option maxRecDepth 20000 in
set_option maxHeartbeats 4000000 in
theorem tl_X8_hash_27 (o : OO) (x3 : Int) (i_z1 : Int64) (i_x4 : Int) (hB_o : BoxC o) (k0 : 0 ≤ x3 ∧ x3 ≤ o.1 1 0) (k1 : x3 < o.1 1 0) (v0 : 0 ≤ i_x4 ∧ i_x4 ≤ 40) : T (loopW (fun s => l_X8_hash_27 o x3 s.1 s.2) (i_z1, i_x4)) (fun r => True) := by
  refine T_loop (fun s => (0 ≤ s.2 ∧ s.2 ≤ 40)) (fun s => (40 - s.2).toNat) (by exact v0) (fun s hs => ?_)
  obtain ⟨z1, x4⟩ := s
  replace hs : (0 ≤ x4 ∧ x4 ≤ 40) := hs
  have w0 := hs
  have g1_0_o := bC_1_0 hB_o
  show T (l_X8_hash_27 o x3 z1 x4) _
  unfold l_X8_hash_27
  refine T_qIn ⟨by omega, by omega⟩ ?_
  refine T_qNm (fun n2 e_n2 => ?_)
  have b_n2 : -1 ≤ n2 ∧ n2 ≤ 40 := by rw [e_n2]; exact bC_2 hB_o _
  refine T_qLt ⟨by omega, by omega⟩ ⟨by omega, by omega⟩ (fun h1 => ?_) (fun h1 => ?_)
  ·
    refine T_qB (t_X8_at o x3 x4 hB_o (by omega)) (fun r3 hc_r3 hp2 => ?_)
    replace hp2 : (r3 = o.1 3 (x3 * 40 + x4).toNat) ∧ (inR r3) := hp2
    have hps_hp2 := hp2
    obtain ⟨hp2_0, hp2_1⟩ := hps_hp2
    replace hp2 := hid hp2
    refine T_qNm (fun m5 e_m5 => ?_)
    refine T_some ?_
    show ((0 ≤ (x4 + 1) ∧ (x4 + 1) ≤ 40)) ∧ (40 - (x4 + 1)).toNat < (40 - x4).toNat
    exact ⟨(by omega), by omega⟩
  ·
    refine T_some ?_
    show True
    exact trivial
set_option maxRecDepth 20000 in
set_option maxHeartbeats 4000000 in
theorem tl_X8_hash_2 (o : OO) (i_z1 : Int64) (i_x3 : Int) (hB_o : BoxC o) (v0 : 0 ≤ i_x3 ∧ i_x3 ≤ o.1 1 0) : T (loopW (fun s => l_X8_hash_2 o s.1 s.2) (i_z1, i_x3)) (fun r => True) := by
  refine T_loop (fun s => (0 ≤ s.2 ∧ s.2 ≤ o.1 1 0)) (fun s => (o.1 1 0 - s.2).toNat) (by exact v0) (fun s hs => ?_)
  obtain ⟨z1, x3⟩ := s
  replace hs : (0 ≤ x3 ∧ x3 ≤ o.1 1 0) := hs
  have w0 := hs
  have g1_0_o := bC_1_0 hB_o
  show T (l_X8_hash_2 o z1 x3) _
  unfold l_X8_hash_2
  refine T_qLt ⟨by omega, by omega⟩ ⟨by omega, by omega⟩ (fun h3 => ?_) (fun h3 => ?_)
  ·
    refine T_qIn ⟨by omega, by omega⟩ ?_
    refine T_qNm (fun n7 e_n7 => ?_)
    have b_n7 : -1 ≤ n7 ∧ n7 ≤ 40 := by rw [e_n7]; exact bC_2 hB_o _
    refine T_qNm (fun m8 e_m8 => ?_)
    unfold e_X8_hash_27
    refine T_qB (tl_X8_hash_27 o x3 m8 0 hB_o (by omega) (by omega) (by omega)) (fun r4 hc_r4 hp5 => ?_)
    obtain ⟨z1_6, q_z1_6⟩ : ∃ q, q = r4 := ⟨_, rfl⟩
    subst q_z1_6
    show T (b_X8_hash_59 o z1_6 x3) _
    unfold b_X8_hash_59
    refine T_some ?_
    show ((0 ≤ (x3 + 1) ∧ (x3 + 1) ≤ o.1 1 0)) ∧ (o.1 1 0 - (x3 + 1)).toNat < (o.1 1 0 - x3).toNat
    exact ⟨(by omega), by omega⟩
  ·
    refine T_some ?_
    show True
    exact trivial
set_option maxRecDepth 20000 in
set_option maxHeartbeats 4000000 in
theorem t_X8_hash (o : OO) (z1 : Int64) (hB_o : BoxC o) : T (s_X8_hash o z1) (fun _ => True) := by
  have g1_0_o := bC_1_0 hB_o
  unfold s_X8_hash
  unfold e_X8_hash_2
  refine T_qB (tl_X8_hash_2 o z1 0 hB_o (by omega)) (fun r7 hc_r7 hp8 => ?_)
  obtain ⟨z1_9, q_z1_9⟩ : ∃ q, q = r7 := ⟨_, rfl⟩
  subst q_z1_9
  show T (b_X8_hash_65 o z1_9) _
  unfold b_X8_hash_65
  refine T_some ?_
  show True
  exact trivial
set_option maxRecDepth 20000 in
set_option maxHeartbeats 4000000 in
theorem t_X8_at__4 (o : OO) (x1 : Int) (x2 : Int) (hB_o : BoxC o) (k0 : 0 ≤ x1 * 40 + x2 ∧ x1 * 40 + x2 < 240) : T (s_X8_at__4 o x1 x2) (fun v => (v = o.1 6 (x1 * 40 + x2).toNat) ∧ (inR v)) := by
  unfold s_X8_at__4
  refine T_qIn ⟨by omega, by omega⟩ ?_
  refine T_qNm (fun n2 e_n2 => ?_)
  have b_n2 : -2147483648 ≤ n2 ∧ n2 ≤ 2147483647 := by rw [e_n2]; exact bC_6 hB_o _
  refine T_some ?_
  show (n2 = o.1 6 (x1 * 40 + x2).toNat) ∧ (inR n2)
  exact ⟨(by omega), (by omega)⟩
set_option maxRecDepth 20000 in
set_option maxHeartbeats 4000000 in
theorem tl_X8_hash__4_27 (o : OO) (x3 : Int) (i_z1 : Int64) (i_x4 : Int) (hB_o : BoxC o) (k0 : 0 ≤ x3 ∧ x3 ≤ o.1 4 0) (k1 : x3 < o.1 4 0) (v0 : 0 ≤ i_x4 ∧ i_x4 ≤ 40) : T (loopW (fun s => l_X8_hash__4_27 o x3 s.1 s.2) (i_z1, i_x4)) (fun r => True) := by
  refine T_loop (fun s => (0 ≤ s.2 ∧ s.2 ≤ 40)) (fun s => (40 - s.2).toNat) (by exact v0) (fun s hs => ?_)
  obtain ⟨z1, x4⟩ := s
  replace hs : (0 ≤ x4 ∧ x4 ≤ 40) := hs
  have w0 := hs
  have g4_0_o := bC_4_0 hB_o
  show T (l_X8_hash__4_27 o x3 z1 x4) _
  unfold l_X8_hash__4_27
  refine T_qIn ⟨by omega, by omega⟩ ?_
  refine T_qNm (fun n2 e_n2 => ?_)
  have b_n2 : -1 ≤ n2 ∧ n2 ≤ 40 := by rw [e_n2]; exact bC_5 hB_o _
  refine T_qLt ⟨by omega, by omega⟩ ⟨by omega, by omega⟩ (fun h1 => ?_) (fun h1 => ?_)
  ·
    refine T_qB (t_X8_at__4 o x3 x4 hB_o (by omega)) (fun r3 hc_r3 hp2 => ?_)
    replace hp2 : (r3 = o.1 6 (x3 * 40 + x4).toNat) ∧ (inR r3) := hp2
    have hps_hp2 := hp2
    obtain ⟨hp2_0, hp2_1⟩ := hps_hp2
    replace hp2 := hid hp2
    refine T_qNm (fun m5 e_m5 => ?_)
    refine T_some ?_
    show ((0 ≤ (x4 + 1) ∧ (x4 + 1) ≤ 40)) ∧ (40 - (x4 + 1)).toNat < (40 - x4).toNat
    exact ⟨(by omega), by omega⟩
  ·
    refine T_some ?_
    show True
    exact trivial
set_option maxRecDepth 20000 in
set_option maxHeartbeats 4000000 in
theorem tl_X8_hash__4_2 (o : OO) (i_z1 : Int64) (i_x3 : Int) (hB_o : BoxC o) (v0 : 0 ≤ i_x3 ∧ i_x3 ≤ o.1 4 0) : T (loopW (fun s => l_X8_hash__4_2 o s.1 s.2) (i_z1, i_x3)) (fun r => True) := by
  refine T_loop (fun s => (0 ≤ s.2 ∧ s.2 ≤ o.1 4 0)) (fun s => (o.1 4 0 - s.2).toNat) (by exact v0) (fun s hs => ?_)
  obtain ⟨z1, x3⟩ := s
  replace hs : (0 ≤ x3 ∧ x3 ≤ o.1 4 0) := hs
  have w0 := hs
  have g4_0_o := bC_4_0 hB_o
  show T (l_X8_hash__4_2 o z1 x3) _
  unfold l_X8_hash__4_2
  refine T_qLt ⟨by omega, by omega⟩ ⟨by omega, by omega⟩ (fun h3 => ?_) (fun h3 => ?_)
  ·
    refine T_qIn ⟨by omega, by omega⟩ ?_
    refine T_qNm (fun n7 e_n7 => ?_)
    have b_n7 : -1 ≤ n7 ∧ n7 ≤ 40 := by rw [e_n7]; exact bC_5 hB_o _
    refine T_qNm (fun m8 e_m8 => ?_)
    unfold e_X8_hash__4_27
    refine T_qB (tl_X8_hash__4_27 o x3 m8 0 hB_o (by omega) (by omega) (by omega)) (fun r4 hc_r4 hp5 => ?_)
    obtain ⟨z1_6, q_z1_6⟩ : ∃ q, q = r4 := ⟨_, rfl⟩
    subst q_z1_6
    show T (b_X8_hash__4_59 o z1_6 x3) _
    unfold b_X8_hash__4_59
    refine T_some ?_
    show ((0 ≤ (x3 + 1) ∧ (x3 + 1) ≤ o.1 4 0)) ∧ (o.1 4 0 - (x3 + 1)).toNat < (o.1 4 0 - x3).toNat
    exact ⟨(by omega), by omega⟩
  ·
    refine T_some ?_
    show True
    exact trivial
set_option maxRecDepth 20000 in
set_option maxHeartbeats 4000000 in
theorem t_X8_hash__4 (o : OO) (z1 : Int64) (hB_o : BoxC o) : T (s_X8_hash__4 o z1) (fun _ => True) := by
  have g4_0_o := bC_4_0 hB_o
  unfold s_X8_hash__4
  unfold e_X8_hash__4_2
  refine T_qB (tl_X8_hash__4_2 o z1 0 hB_o (by omega)) (fun r7 hc_r7 hp8 => ?_)
  obtain ⟨z1_9, q_z1_9⟩ : ∃ q, q = r7 := ⟨_, rfl⟩
  subst q_z1_9
  show T (b_X8_hash__4_65 o z1_9) _
  unfold b_X8_hash__4_65
  refine T_some ?_
  show True
  exact trivial
set_option maxRecDepth 20000 in
set_option maxHeartbeats 4000000 in
theorem tl_X11_digest_6 (o : OO) (i_z1 : Int64) (i_x3 : Int) (hB_o : BoxC o) (v0 : 0 ≤ i_x3 ∧ i_x3 ≤ 10) : T (loopW (fun s => l_X11_digest_6 o s.1 s.2) (i_z1, i_x3)) (fun r => True) := by
  refine T_loop (fun s => (0 ≤ s.2 ∧ s.2 ≤ 10)) (fun s => (10 - s.2).toNat) (by exact v0) (fun s hs => ?_)
  obtain ⟨z1, x3⟩ := s
  replace hs : (0 ≤ x3 ∧ x3 ≤ 10) := hs
  have w0 := hs
  show T (l_X11_digest_6 o z1 x3) _
  unfold l_X11_digest_6
  refine T_qLt ⟨by decide, by decide⟩ ⟨by omega, by omega⟩ (fun h1 => ?_) (fun h1 => ?_)
  ·
    refine T_some ?_
    show True
    exact trivial
  ·
    refine T_qB (t_X11_count o x3 hB_o (by omega)) (fun r15 hc_r15 hp2 => ?_)
    refine T_qNm (fun m17 e_m17 => ?_)
    refine T_some ?_
    show ((0 ≤ (x3 + 1) ∧ (x3 + 1) ≤ 10)) ∧ (10 - (x3 + 1)).toNat < (10 - x3).toNat
    exact ⟨(by omega), by omega⟩
set_option maxRecDepth 20000 in
set_option maxHeartbeats 4000000 in
theorem t_X11_digest (o : OO) (hB_o : BoxC o) : T (s_X11_digest o) (fun _ => True) := by
  unfold s_X11_digest
  refine T_qNm (fun m18 e_m18 => ?_)
  unfold e_X11_digest_6
  refine T_qB (tl_X11_digest_6 o m18 0 hB_o (by omega)) (fun r3 hc_r3 hp4 => ?_)
  obtain ⟨z1_5, q_z1_5⟩ : ∃ q, q = r3 := ⟨_, rfl⟩
  subst q_z1_5
  show T (b_X11_digest_31 o z1_5) _
  unfold b_X11_digest_31
  refine T_qB (t_X3_hash o z1_5 hB_o) (fun p1 hc_p1 hp6 => ?_)
  refine T_qB (t_X1_hash o p1 hB_o) (fun p3 hc_p3 hp7 => ?_)
  refine T_qB (t_X5_hash o p3 hB_o) (fun p5 hc_p5 hp8 => ?_)
  refine T_qB (t_X7_hash o p5 hB_o) (fun p7 hc_p7 hp9 => ?_)
  refine T_qB (t_X4_hash o p7 hB_o) (fun p9 hc_p9 hp10 => ?_)
  refine T_qB (t_X8_hash o p9 hB_o) (fun p11 hc_p11 hp11 => ?_)
  refine T_qB (t_X8_hash__4 o p11 hB_o) (fun p13 hc_p13 hp12 => ?_)
  refine T_some ?_
  show True
  exact trivial
set_option maxRecDepth 20000 in
set_option maxHeartbeats 4000000 in
theorem t_X4_shownOn (o : OO) (x1 : Int) (hB_o : BoxC o) (k0 : 0 ≤ x1 ∧ x1 ≤ 23) : T (s_X4_shownOn o x1) (fun v => (-9 ≤ v ∧ v ≤ 999)) := by
  unfold s_X4_shownOn
  refine T_qIn ⟨by omega, by omega⟩ ?_
  refine T_qNm (fun n2 e_n2 => ?_)
  have b_n2 : -9 ≤ n2 ∧ n2 ≤ 999 := by rw [e_n2]; exact bC_40 hB_o _
  refine T_some ?_
  show (-9 ≤ n2 ∧ n2 ≤ 999)
  exact (by omega)
set_option maxRecDepth 20000 in
set_option maxHeartbeats 4000000 in
theorem t_X2_dayOfBuy (o : OO) (x1 : Int) (hB_o : BoxC o) (k0 : 0 ≤ x1 ∧ x1 ≤ 39) : T (s_X2_dayOfBuy o x1) (fun v => (0 ≤ v ∧ v ≤ 999)) := by
  unfold s_X2_dayOfBuy
  refine T_qIn ⟨by omega, by omega⟩ ?_
  refine T_qNm (fun n2 e_n2 => ?_)
  have b_n2 : 0 ≤ n2 ∧ n2 ≤ 999 := by rw [e_n2]; exact bC_49 hB_o _
  refine T_some ?_
  show (0 ≤ n2 ∧ n2 ≤ 999)
  exact (by omega)
set_option maxRecDepth 20000 in
set_option maxHeartbeats 4000000 in
theorem t_X2_bought (o : OO) (x1 : Int) (hB_o : BoxC o) (k0 : 0 ≤ x1 ∧ x1 ≤ 39) : T (s_X2_bought o x1) (fun v => (0 ≤ v ∧ v ≤ 31)) := by
  unfold s_X2_bought
  refine T_qIn ⟨by omega, by omega⟩ ?_
  refine T_qNm (fun n2 e_n2 => ?_)
  have b_n2 : 0 ≤ n2 ∧ n2 ≤ 31 := by rw [e_n2]; exact bC_47 hB_o _
  refine T_some ?_
  show (0 ≤ n2 ∧ n2 ≤ 31)
  exact (by omega)
set_option maxRecDepth 20000 in
set_option maxHeartbeats 4000000 in
theorem t_X1_cellOfOne (o : OO) (x1 : Int) (hB_o : BoxC o) (k0 : 0 ≤ x1 ∧ x1 ≤ 31) : T (s_X1_cellOfOne o x1) (fun v => (0 ≤ v ∧ v ≤ 63) ∧ (v = o.1 11 x1.toNat)) := by
  unfold s_X1_cellOfOne
  refine T_qIn ⟨by omega, by omega⟩ ?_
  refine T_qNm (fun n2 e_n2 => ?_)
  have b_n2 : 0 ≤ n2 ∧ n2 ≤ 63 := by rw [e_n2]; exact bC_11 hB_o _
  refine T_some ?_
  show (0 ≤ n2 ∧ n2 ≤ 63) ∧ (n2 = o.1 11 x1.toNat)
  exact ⟨(by omega), (by omega)⟩
set_option maxRecDepth 20000 in
set_option maxHeartbeats 4000000 in
theorem t_X11_isEarly (o : OO) (x1 : Int) (x2 : Int) (hB_o : BoxC o) (k0 : 0 ≤ x1 ∧ x1 ≤ 39) (k1 : 0 ≤ x2 ∧ x2 ≤ 23) : T (s_X11_isEarly o x1 x2) (fun v => (0 ≤ v ∧ v ≤ 1)) := by
  unfold s_X11_isEarly
  refine T_qB (t_X4_shownOn o x2 hB_o (by omega)) (fun r9 hc_r9 hp1 => ?_)
  replace hp1 : (-9 ≤ r9 ∧ r9 ≤ 999) := hp1
  refine T_qEq ⟨by omega, by omega⟩ ⟨by decide, by decide⟩ (fun h2 => ?_) (fun h2 => ?_)
  ·
    unfold b_X11_isEarly_29
    refine T_qB (t_X4_cells o x2 hB_o (by omega)) (fun p1 hc_p1 hp3 => ?_)
    refine T_qB (t_X2_bought o x1 hB_o (by omega)) (fun r3 hc_r3 hp4 => ?_)
    replace hp4 : (0 ≤ r3 ∧ r3 ≤ 31) := hp4
    refine T_qB (t_X1_cellOfOne o r3 hB_o (by omega)) (fun r5 hc_r5 hp5 => ?_)
    replace hp5 : (0 ≤ r5 ∧ r5 ≤ 63) ∧ (r5 = o.1 11 r3.toNat) := hp5
    have hps_hp5 := hp5
    obtain ⟨hp5_0, hp5_1⟩ := hps_hp5
    replace hp5 := hid hp5
    refine T_qB (t_X3_has p1 r5) (fun r7 hc_r7 hp6 => ?_)
    replace hp6 : (0 ≤ r7 ∧ r7 ≤ 1) ∧ (HBT p1 r5 r7) := hp6
    have hps_hp6 := hp6
    obtain ⟨hp6_0, hp6_1⟩ := hps_hp6
    replace hp6 := hid hp6
    refine T_qZ (by omega) ?_
    refine T_some ?_
    show (0 ≤ r7 ∧ r7 ≤ 1)
    exact (by omega)
  ·
    refine T_qB (t_X2_dayOfBuy o x1 hB_o (by omega)) (fun r11 hc_r11 hp7 => ?_)
    replace hp7 : (0 ≤ r11 ∧ r11 ≤ 999) := hp7
    refine T_qLt ⟨by omega, by omega⟩ ⟨by omega, by omega⟩ (fun h8 => ?_) (fun h8 => ?_)
    ·
      unfold b_X11_isEarly_29
      refine T_qB (t_X4_cells o x2 hB_o (by omega)) (fun p1 hc_p1 hp9 => ?_)
      refine T_qB (t_X2_bought o x1 hB_o (by omega)) (fun r3 hc_r3 hp10 => ?_)
      replace hp10 : (0 ≤ r3 ∧ r3 ≤ 31) := hp10
      refine T_qB (t_X1_cellOfOne o r3 hB_o (by omega)) (fun r5 hc_r5 hp11 => ?_)
      replace hp11 : (0 ≤ r5 ∧ r5 ≤ 63) ∧ (r5 = o.1 11 r3.toNat) := hp11
      have hps_hp11 := hp11
      obtain ⟨hp11_0, hp11_1⟩ := hps_hp11
      replace hp11 := hid hp11
      refine T_qB (t_X3_has p1 r5) (fun r7 hc_r7 hp12 => ?_)
      replace hp12 : (0 ≤ r7 ∧ r7 ≤ 1) ∧ (HBT p1 r5 r7) := hp12
      have hps_hp12 := hp12
      obtain ⟨hp12_0, hp12_1⟩ := hps_hp12
      replace hp12 := hid hp12
      refine T_qZ (by omega) ?_
      refine T_some ?_
      show (0 ≤ r7 ∧ r7 ≤ 1)
      exact (by omega)
    ·
      refine T_qZ (Or.inl rfl) ?_
      refine T_some ?_
      show (0 ≤ 0 ∧ 0 ≤ 1)
      exact (by omega)
set_option maxRecDepth 20000 in
set_option maxHeartbeats 4000000 in
theorem tl_X2_heardOn_2 (o : OO) (x1 : Int) (x2 : Int) (i_x3 : Int) (hB_o : BoxC o) (k0 : inR x1) (k1 : inR x2) (v0 : 0 ≤ i_x3 ∧ i_x3 ≤ o.1 46 7) : T (loopW (fun s => l_X2_heardOn_2 o x1 x2 s) i_x3) (Sum.elim (fun r => (0 ≤ r ∧ r < o.1 46 7)) (fun _ => True)) := by
  refine T_loop (fun s => (0 ≤ s ∧ s ≤ o.1 46 7)) (fun s => (o.1 46 7 - s).toNat) (by exact v0) (fun s hs => ?_)
  obtain ⟨x3, q_x3⟩ : ∃ q, q = s := ⟨_, rfl⟩
  subst q_x3
  replace hs : (0 ≤ x3 ∧ x3 ≤ o.1 46 7) := hs
  have w0 := hs
  have g46_7_o := bC_46_7 hB_o
  show T (l_X2_heardOn_2 o x1 x2 x3) _
  unfold l_X2_heardOn_2
  refine T_qLt ⟨by omega, by omega⟩ ⟨by omega, by omega⟩ (fun h1 => ?_) (fun h1 => ?_)
  ·
    refine T_qIn ⟨by omega, by omega⟩ ?_
    refine T_qNm (fun n4 e_n4 => ?_)
    have b_n4 : 0 ≤ n4 ∧ n4 ≤ 39 := by rw [e_n4]; exact bC_50 hB_o _
    refine T_qEq ⟨by omega, by omega⟩ ⟨by omega, by omega⟩ (fun h2 => ?_) (fun h2 => ?_)
    ·
      refine T_qIn ⟨by omega, by omega⟩ ?_
      refine T_qNm (fun n6 e_n6 => ?_)
      have b_n6 : 0 ≤ n6 ∧ n6 ≤ 23 := by rw [e_n6]; exact bC_51 hB_o _
      refine T_qEq ⟨by omega, by omega⟩ ⟨by omega, by omega⟩ (fun h3 => ?_) (fun h3 => ?_)
      ·
        refine T_some ?_
        show (0 ≤ x3 ∧ x3 < o.1 46 7)
        exact (by omega)
      ·
        unfold b_X2_heardOn_37
        refine T_some ?_
        show ((0 ≤ (x3 + 1) ∧ (x3 + 1) ≤ o.1 46 7)) ∧ (o.1 46 7 - (x3 + 1)).toNat < (o.1 46 7 - x3).toNat
        exact ⟨(by omega), by omega⟩
    ·
      unfold b_X2_heardOn_37
      refine T_some ?_
      show ((0 ≤ (x3 + 1) ∧ (x3 + 1) ≤ o.1 46 7)) ∧ (o.1 46 7 - (x3 + 1)).toNat < (o.1 46 7 - x3).toNat
      exact ⟨(by omega), by omega⟩
  ·
    refine T_some ?_
    show True
    exact trivial
set_option maxRecDepth 20000 in
set_option maxHeartbeats 4000000 in
theorem t_X2_heardOn (o : OO) (x1 : Int) (x2 : Int) (hB_o : BoxC o) (k0 : inR x1) (k1 : inR x2) : T (s_X2_heardOn o x1 x2) (fun v => (-9 ≤ v ∧ v ≤ 999)) := by
  have g46_7_o := bC_46_7 hB_o
  unfold s_X2_heardOn
  unfold e_X2_heardOn_2
  refine T_qB (tl_X2_heardOn_2 o x1 x2 0 hB_o (by omega) (by omega) (by omega)) (fun r4 hc_r4 hp5 => ?_)
  rcases r4 with r4 | r4
  ·
    obtain ⟨x3_6, q_x3_6⟩ : ∃ q, q = r4 := ⟨_, rfl⟩
    subst q_x3_6
    replace hp5 : (0 ≤ x3_6 ∧ x3_6 < o.1 46 7) := hp5
    show T (b_X2_heardOn_30 o x3_6) _
    unfold b_X2_heardOn_30
    refine T_qIn ⟨by omega, by omega⟩ ?_
    refine T_qNm (fun n2 e_n2 => ?_)
    have b_n2 : 0 ≤ n2 ∧ n2 ≤ 999 := by rw [e_n2]; exact bC_52 hB_o _
    refine T_some ?_
    show (-9 ≤ n2 ∧ n2 ≤ 999)
    exact (by omega)
  ·
    show T (b_X2_heardOn_43 o) _
    unfold b_X2_heardOn_43
    refine T_some ?_
    show (-9 ≤ (-9) ∧ (-9) ≤ 999)
    exact (by omega)
set_option maxRecDepth 20000 in
set_option maxHeartbeats 4000000 in
theorem t_X2_buyerHeard (o : OO) (x1 : Int) (x2 : Int) (hB_o : BoxC o) (k0 : 0 ≤ x1 ∧ x1 ≤ 39) (k1 : inR x2) : T (s_X2_buyerHeard o x1 x2) (fun v => (0 ≤ v ∧ v ≤ 1)) := by
  unfold s_X2_buyerHeard
  refine T_qIn ⟨by omega, by omega⟩ ?_
  refine T_qNm (fun n2 e_n2 => ?_)
  have b_n2 : 0 ≤ n2 ∧ n2 ≤ 39 := by rw [e_n2]; exact bC_48 hB_o _
  refine T_qB (t_X2_heardOn o n2 x2 hB_o (by omega) (by omega)) (fun r3 hc_r3 hp1 => ?_)
  replace hp1 : (-9 ≤ r3 ∧ r3 ≤ 999) := hp1
  refine T_qEq ⟨by omega, by omega⟩ ⟨by decide, by decide⟩ (fun h2 => ?_) (fun h2 => ?_)
  ·
    unfold b_X2_buyerHeard_32
    unfold b_X2_buyerHeard_33
    refine T_qZ (Or.inl rfl) ?_
    refine T_some ?_
    show (0 ≤ 0 ∧ 0 ≤ 1)
    exact (by omega)
  ·
    refine T_qIn ⟨by omega, by omega⟩ ?_
    refine T_qNm (fun n6 e_n6 => ?_)
    have b_n6 : 0 ≤ n6 ∧ n6 ≤ 999 := by rw [e_n6]; exact bC_49 hB_o _
    refine T_qLt ⟨by omega, by omega⟩ ⟨by omega, by omega⟩ (fun h3 => ?_) (fun h3 => ?_)
    ·
      unfold b_X2_buyerHeard_32
      unfold b_X2_buyerHeard_33
      refine T_qZ (Or.inl rfl) ?_
      refine T_some ?_
      show (0 ≤ 0 ∧ 0 ≤ 1)
      exact (by omega)
    ·
      unfold b_X2_buyerHeard_33
      refine T_qZ (Or.inr rfl) ?_
      refine T_some ?_
      show (0 ≤ 1 ∧ 1 ≤ 1)
      exact (by omega)
