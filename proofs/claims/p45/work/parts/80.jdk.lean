set_option maxRecDepth 200000 in
theorem q_534 : Cond.code yJ7_rangeCheck_23922 cJ7_rangeCheck_23922 3 none ∈ tb := tb_mem 534 (by rfl) rfl
set_option maxRecDepth 200000 in
theorem q_92 : Cond.initialized "java/util/Arrays" ∈ tb := tb_mem 92 (by decide +kernel) rfl
set_option maxRecDepth 200000 in
theorem q_533 : Cond.static yJ7_rangeCheck_23922 ∈ tb := tb_mem 533 (by decide +kernel) rfl
set_option maxRecDepth 200000 in
theorem q_532 : Cond.methodLink "java/util/Arrays" 13 yJ7_rangeCheck_23922 ∈ tb := tb_mem 532 (by decide +kernel) rfl
theorem dJ7_fill_53178_0 : decode cJ7_fill_53178 0 = .ok (.iconst 0, 1) := by decide +kernel
theorem dJ7_fill_53178_1 : decode cJ7_fill_53178 1 = .ok (.istore_n 2, 1) := by decide +kernel
theorem dJ7_fill_53178_2 : decode cJ7_fill_53178 2 = .ok (.aload_n 0, 1) := by decide +kernel
theorem dJ7_fill_53178_3 : decode cJ7_fill_53178 3 = .ok (.arraylength, 1) := by decide +kernel
theorem dJ7_fill_53178_4 : decode cJ7_fill_53178 4 = .ok (.istore_n 3, 1) := by decide +kernel
theorem dJ7_fill_53178_5 : decode cJ7_fill_53178 5 = .ok (.iload_n 2, 1) := by decide +kernel
theorem dJ7_fill_53178_6 : decode cJ7_fill_53178 6 = .ok (.iload_n 3, 1) := by decide +kernel
theorem dJ7_fill_53178_7 : decode cJ7_fill_53178 7 = .ok (.if_icmp .ge 13, 3) := by decide +kernel
theorem dJ7_fill_53178_10 : decode cJ7_fill_53178 10 = .ok (.aload_n 0, 1) := by decide +kernel
theorem dJ7_fill_53178_11 : decode cJ7_fill_53178 11 = .ok (.iload_n 2, 1) := by decide +kernel
theorem dJ7_fill_53178_12 : decode cJ7_fill_53178 12 = .ok (.iload_n 1, 1) := by decide +kernel
theorem dJ7_fill_53178_13 : decode cJ7_fill_53178 13 = .ok (.iastore, 1) := by decide +kernel
theorem dJ7_fill_53178_14 : decode cJ7_fill_53178 14 = .ok (.iinc 2 1, 3) := by decide +kernel
theorem dJ7_fill_53178_17 : decode cJ7_fill_53178 17 = .ok (.goto (-12), 3) := by decide +kernel
theorem dJ7_fill_53178_20 : decode cJ7_fill_53178 20 = .ok (.return_, 1) := by decide +kernel
theorem dJ7_rangeCheck_23922_0 : decode cJ7_rangeCheck_23922 0 = .ok (.iload_n 1, 1) := by decide +kernel
theorem dJ7_rangeCheck_23922_1 : decode cJ7_rangeCheck_23922 1 = .ok (.iload_n 2, 1) := by decide +kernel
theorem dJ7_rangeCheck_23922_2 : decode cJ7_rangeCheck_23922 2 = .ok (.if_icmp .le 44, 3) := by decide +kernel
theorem dJ7_rangeCheck_23922_46 : decode cJ7_rangeCheck_23922 46 = .ok (.iload_n 1, 1) := by decide +kernel
theorem dJ7_rangeCheck_23922_47 : decode cJ7_rangeCheck_23922 47 = .ok (.ifCond .ge 12, 3) := by decide +kernel
theorem dJ7_rangeCheck_23922_59 : decode cJ7_rangeCheck_23922 59 = .ok (.iload_n 2, 1) := by decide +kernel
theorem dJ7_rangeCheck_23922_60 : decode cJ7_rangeCheck_23922 60 = .ok (.iload_n 0, 1) := by decide +kernel
theorem dJ7_rangeCheck_23922_61 : decode cJ7_rangeCheck_23922 61 = .ok (.if_icmp .le 12, 3) := by decide +kernel
theorem dJ7_rangeCheck_23922_73 : decode cJ7_rangeCheck_23922 73 = .ok (.return_, 1) := by decide +kernel
theorem dJ7_fill_fda19_0 : decode cJ7_fill_fda19 0 = .ok (.aload_n 0, 1) := by decide +kernel
theorem dJ7_fill_fda19_1 : decode cJ7_fill_fda19 1 = .ok (.arraylength, 1) := by decide +kernel
theorem dJ7_fill_fda19_2 : decode cJ7_fill_fda19 2 = .ok (.iload_n 1, 1) := by decide +kernel
theorem dJ7_fill_fda19_3 : decode cJ7_fill_fda19 3 = .ok (.iload_n 2, 1) := by decide +kernel
theorem dJ7_fill_fda19_4 : decode cJ7_fill_fda19 4 = .ok (.invokestatic 13, 3) := by decide +kernel
theorem dJ7_fill_fda19_7 : decode cJ7_fill_fda19 7 = .ok (.iload_n 1, 1) := by decide +kernel
theorem dJ7_fill_fda19_8 : decode cJ7_fill_fda19 8 = .ok (.istore 4, 2) := by decide +kernel
theorem dJ7_fill_fda19_10 : decode cJ7_fill_fda19 10 = .ok (.iload 4, 2) := by decide +kernel
theorem dJ7_fill_fda19_12 : decode cJ7_fill_fda19 12 = .ok (.iload_n 2, 1) := by decide +kernel
theorem dJ7_fill_fda19_13 : decode cJ7_fill_fda19 13 = .ok (.if_icmp .ge 14, 3) := by decide +kernel
theorem dJ7_fill_fda19_16 : decode cJ7_fill_fda19 16 = .ok (.aload_n 0, 1) := by decide +kernel
theorem dJ7_fill_fda19_17 : decode cJ7_fill_fda19 17 = .ok (.iload 4, 2) := by decide +kernel
theorem dJ7_fill_fda19_19 : decode cJ7_fill_fda19 19 = .ok (.iload_n 3, 1) := by decide +kernel
theorem dJ7_fill_fda19_20 : decode cJ7_fill_fda19 20 = .ok (.iastore, 1) := by decide +kernel
theorem dJ7_fill_fda19_21 : decode cJ7_fill_fda19 21 = .ok (.iinc 4 1, 3) := by decide +kernel
theorem dJ7_fill_fda19_24 : decode cJ7_fill_fda19 24 = .ok (.goto (-14), 3) := by decide +kernel
theorem dJ7_fill_fda19_27 : decode cJ7_fill_fda19 27 = .ok (.return_, 1) := by decide +kernel
theorem ok_J7_rangeCheck_23922 : okM yJ7_rangeCheck_23922 cJ7_rangeCheck_23922 3 none 3 := ⟨q_534, q_92, by decide +kernel, by decide +kernel, by decide +kernel⟩
def sp_J7_fill_53178 (g : GG) (a0 : Nat) (n0 : Nat) (f0 : Nat → Int32) (v : Int32) : va_W := [(a0, .inl (cI g, n0, .inl (fun _ => v)))]
set_option maxHeartbeats 4000000 in
set_option maxRecDepth 100000 in
theorem kc_J7_fill_53178 (l : Launch) (g : GG) (a0 : Nat) (n0 : Nat) (f0 : Nat → Int32) (v : Int32) (hn0 : n0 < 2 ^ 31) : MV l g yJ7_fill_53178 cJ7_fill_53178 4 0 0 0 0 [(a0, .inl (cI g, n0, .inl f0))] [.ref a0, .int v] (fun ww_ => ww_ = sp_J7_fill_53178 g a0 n0 f0 v) := by
  refine met_of (fun A => va_Qv _ (bW g A) A) (by decide) (Nat.le_of_ble_eq_true rfl) ?_
  intro p e s m below meth c A ls X hK hP hD hA hZ hS hl
  have hx := X.1
  have hb := X.2.1
  have hml := X.2.2.1
  have hown := X.2.2.2.1
  have hts := X.2.2.2.2.1
  have hnm := X.2.2.2.2.2.2.2
  have hl : lv_has ls 4 [(0, .ref a0), (1, .int v)] := hl
  refine lv_iconst (v := 0) hx hb dJ7_fill_53178_0 (by decide) ?_
  refine lv_istore_n (lv' := [(2, .int 0), (0, .ref a0), (1, .int v)]) hx hb dJ7_fill_53178_1 rfl hl (by decide) rfl (fun ls hl => ?_)
  refine lv_aload_n hx hb dJ7_fill_53178_2 rfl (lv_at hl 1 rfl) ?_
  refine va_alen hx hb hK hP 0 0 rfl rfl (v := nI n0) rfl dJ7_fill_53178_3 ?_
  refine lv_istore_n (lv' := [(3, .int (nI n0)), (2, .int 0), (0, .ref a0), (1, .int v)]) hx hb dJ7_fill_53178_4 rfl hl (by decide) rfl (fun ls hl => ?_)
  rw [← fill0 f0 0 v] at hP hD
  refine loopK n0 (fun k H locs ls => va_P g.1 classes [(a0, .inl (cI g, n0, .inl (fillf f0 0 v k)))] H ∧ va_D A [(a0, .inl (cI g, n0, .inl (fillf f0 0 v k)))] ∧ va_S A s.heap H locs ∧ lv_has ls 4 [(0, .ref a0), (1, .int v), (2, .int (nI k)), (3, .int (nI n0))]) (Wg := fun H locs ls => W p l e _ s m _ below meth c H locs _ _ _ (F0 m 5 ls [])) ?_ ?_ _ _ _ ⟨hP, hD, hS, lv_sub hl [2, 3, 1, 0] rfl⟩
  · intro k hk_k ih H locs ls hI
    obtain ⟨hP, hD, hS, hl⟩ := hI
    have hn_k : (nI k).toInt = (k : Int) := nI_toInt (by omega)
    refine lv_iload_n hx hb dJ7_fill_53178_5 rfl (lv_at hl 2 rfl) ?_
    refine lv_iload_n hx hb dJ7_fill_53178_6 rfl (lv_at hl 3 rfl) ?_
    refine lv_icmp_ge (tgt := 20) hx hb dJ7_fill_53178_7 (by decide) (fun c => absurd c (nI_ge hk_k hn0)) (fun _ => ?_)
    refine lv_aload_n hx hb dJ7_fill_53178_10 rfl (lv_at hl 0 rfl) ?_
    refine lv_iload_n hx hb dJ7_fill_53178_11 rfl (lv_at hl 2 rfl) ?_
    refine lv_iload_n hx hb dJ7_fill_53178_12 rfl (lv_at hl 1 rfl) ?_
    refine va_iast hx hb hK hP hD hS 0 0 rfl rfl (vp_in_nI (by omega) (by omega)) dJ7_fill_53178_13 (fun H locs hP hD hS => ?_)
    have hP : va_P g.1 classes [(a0, .inl (cI g, n0, .inl (upd (fillf f0 0 v k) (nI k).toNatClampNeg v)))] H := hP
    have hD : va_D A [(a0, .inl (cI g, n0, .inl (upd (fillf f0 0 v k) (nI k).toNatClampNeg v)))] := hD
    rw [nI_clamp (show k < 2 ^ 31 by omega)] at hP hD
    refine lv_iinc (v := nI (k + 1)) (lv' := [(2, .int (nI (k + 1))), (0, .ref a0), (1, .int v), (3, .int (nI n0))]) hx hb dJ7_fill_53178_14 hl (k := 2) rfl (nI_1 _) (by decide) rfl (fun ls hl => ?_)
    refine lv_goto (tgt := 5) hx hb dJ7_fill_53178_17 (by decide) ?_
    rw [fillS f0 0 v k (Nat.zero_le k)] at hP hD
    exact ih _ _ _ ⟨hP, hD, hS, lv_sub hl [1, 2, 0, 3] rfl⟩
  · intro H locs ls hI
    obtain ⟨hP, hD, hS, hl⟩ := hI
    have hP := cell_cg hP 0 rfl (f' := fun _ => v) (fun j hj => by unfold fillf; rw [if_pos ⟨Nat.zero_le j, hj⟩])
    have hD := hD.set (p := 0) (e := .inl (cI g, n0, .inl (fun _ => v))) rfl
    have hP : va_P g.1 classes [(a0, .inl (cI g, n0, .inl (fun _ => v)))] H := hP
    have hD : va_D A [(a0, .inl (cI g, n0, .inl (fun _ => v)))] := hD
    refine lv_iload_n hx hb dJ7_fill_53178_5 rfl (lv_at hl 2 rfl) ?_
    refine lv_iload_n hx hb dJ7_fill_53178_6 rfl (lv_at hl 3 rfl) ?_
    refine lv_icmp_ge (tgt := 20) hx hb dJ7_fill_53178_7 (by decide) (fun _ => ?_) (fun c => absurd (nI_le (Nat.le_refl n0) hn0) c)
    exact rV X hK hP hD hS dJ7_fill_53178_20 (Nat.le_of_ble_eq_true rfl) (Nat.le_of_ble_eq_true rfl) (by show (_ : va_W) = _; unfold sp_J7_fill_53178; try rfl)
def sp_J7_rangeCheck_23922 (g : GG) (n0 : Nat) (n1 : Nat) (n2 : Nat) : va_W := []
set_option maxHeartbeats 4000000 in
set_option maxRecDepth 100000 in
theorem kc_J7_rangeCheck_23922 (l : Launch) (g : GG) (n0 : Nat) (n1 : Nat) (n2 : Nat) (h1 : n1 ≤ n2) (h2 : n2 ≤ n0) (h0 : n0 < 2 ^ 31) : MV l g yJ7_rangeCheck_23922 cJ7_rangeCheck_23922 3 0 0 0 0 [] [.int (nI n0), .int (nI n1), .int (nI n2)] (fun ww_ => ww_ = sp_J7_rangeCheck_23922 g n0 n1 n2) := by
  refine met_of (fun A => va_Qv _ (bW g A) A) (by decide) (Nat.le_of_ble_eq_true rfl) ?_
  intro p e s m below meth c A ls X hK hP hD hA hZ hS hl
  have hx := X.1
  have hb := X.2.1
  have hml := X.2.2.1
  have hown := X.2.2.2.1
  have hts := X.2.2.2.2.1
  have hnm := X.2.2.2.2.2.2.2
  have hl : lv_has ls 3 [(0, .int (nI n0)), (1, .int (nI n1)), (2, .int (nI n2))] := hl
  refine lv_iload_n hx hb dJ7_rangeCheck_23922_0 rfl (lv_at hl 1 rfl) ?_
  refine lv_iload_n hx hb dJ7_rangeCheck_23922_1 rfl (lv_at hl 2 rfl) ?_
  refine lv_icmp_le (tgt := 46) hx hb dJ7_rangeCheck_23922_2 (by decide) (fun _ => ?_) (fun c => absurd (nI_le h1 (by omega)) c)
  refine lv_iload_n hx hb dJ7_rangeCheck_23922_46 rfl (lv_at hl 1 rfl) ?_
  refine lv_if_ge (tgt := 59) hx hb dJ7_rangeCheck_23922_47 (by decide) (fun _ => ?_) (fun c => absurd (nI_pos' (by omega)) c)
  refine lv_iload_n hx hb dJ7_rangeCheck_23922_59 rfl (lv_at hl 2 rfl) ?_
  refine lv_iload_n hx hb dJ7_rangeCheck_23922_60 rfl (lv_at hl 0 rfl) ?_
  refine lv_icmp_le (tgt := 73) hx hb dJ7_rangeCheck_23922_61 (by decide) (fun _ => ?_) (fun c => absurd (nI_le h2 (by omega)) c)
  exact rV X hK hP hD hS dJ7_rangeCheck_23922_73 (Nat.le_of_ble_eq_true rfl) (Nat.le_of_ble_eq_true rfl) (by show (_ : va_W) = _; unfold sp_J7_rangeCheck_23922; try rfl)
set_option maxHeartbeats 4000000 in
set_option maxRecDepth 100000 in
theorem kc_J7_fill_fda19 (l : Launch) (g : GG) (a0 : Nat) (n0 : Nat) (f0 : Nat → Int32) (n1 : Nat) (n2 : Nat) (v : Int32) (h1 : n1 ≤ n2) (h2 : n2 ≤ n0) (h0 : n0 < 2 ^ 31) : MV l g yJ7_fill_fda19 cJ7_fill_fda19 5 1 22 0 0 [(a0, .inl (cI g, n0, .inl f0))] [.ref a0, .int (nI n1), .int (nI n2), .int v] (fun ww_ => ∃ (f1 : Nat → Int32), ww_ = [(a0, .inl (cI g, n0, .inl f1))]) := by
  refine met_of (fun A => va_Qv _ (bW g A) A) (by decide) (Nat.le_of_ble_eq_true rfl) ?_
  intro p e s m below meth c A ls X hK hP hD hA hZ hS hl
  have hx := X.1
  have hb := X.2.1
  have hml := X.2.2.1
  have hown := X.2.2.2.1
  have hts := X.2.2.2.2.1
  have hnm := X.2.2.2.2.2.2.2
  have hl : lv_has ls 5 [(0, .ref a0), (1, .int (nI n1)), (2, .int (nI n2)), (3, .int v)] := hl
  refine lv_aload_n hx hb dJ7_fill_fda19_0 rfl (lv_at hl 0 rfl) ?_
  refine va_alen hx hb hK hP 0 0 rfl rfl (v := nI n0) rfl dJ7_fill_fda19_1 ?_
  refine lv_iload_n hx hb dJ7_fill_fda19_2 rfl (lv_at hl 1 rfl) ?_
  refine lv_iload_n hx hb dJ7_fill_fda19_3 rfl (lv_at hl 2 rfl) ?_
  refine kSv (As := [.int (nI n0), .int (nI n1), .int (nI n2)]) (rest := []) (wr := [(a0, .inl (cI g, n0, .inl f0))]) X (kc_J7_rangeCheck_23922 l g n0 n1 n2 (by first | decide | omega) (by first | decide | omega) (by first | decide | omega)) ok_J7_rangeCheck_23922 q_533 q_532 rfl hK hP hD hS hA hZ hl.1 [] [0] rfl rfl rfl rfl rfl rfl (Nat.le_of_ble_eq_true rfl) ⟨Nat.le_of_ble_eq_true rfl, Nat.le_of_ble_eq_true rfl⟩ dJ7_fill_fda19_4 ⟨Nat.le_of_ble_eq_true rfl, Nat.le_of_ble_eq_true rfl⟩ (fun w1 H locs hw_2 hP hD hS => ?_)
  rw [sp_J7_rangeCheck_23922] at hw_2
  subst hw_2
  have hP : va_P g.1 classes [(a0, .inl (cI g, n0, .inl f0))] H := hP
  have hD : va_D A [(a0, .inl (cI g, n0, .inl f0))] := hD
  refine lv_iload_n hx hb dJ7_fill_fda19_7 rfl (lv_at hl 1 rfl) ?_
  refine lv_istore (lv' := [(4, .int (nI n1)), (0, .ref a0), (1, .int (nI n1)), (2, .int (nI n2)), (3, .int v)]) hx hb dJ7_fill_fda19_8 hl (by decide) rfl (fun ls hl => ?_)
  refine loopK (n2 - n1) (fun k H locs ls => ∃ f1 : Nat → Int32, va_P g.1 classes [(a0, .inl (cI g, n0, .inl f1))] H ∧ va_D A [(a0, .inl (cI g, n0, .inl f1))] ∧ va_S A s.heap H locs ∧ lv_has ls 5 [(0, .ref a0), (1, .int (nI n1)), (2, .int (nI n2)), (3, .int v), (4, .int (nI (n1 + k)))]) (Wg := fun H locs ls => W p l e _ s m _ below meth c H locs _ _ _ (F0 m 10 ls [])) ?_ ?_ _ _ _ ⟨_, hP, hD, hS, lv_sub hl [1, 2, 3, 4, 0] rfl⟩
  · intro k hk_k ih H locs ls hI
    obtain ⟨f1, hP, hD, hS, hl⟩ := hI
    have hn_k : (nI k).toInt = (k : Int) := nI_toInt (by omega)
    refine lv_iload hx hb dJ7_fill_fda19_10 (lv_at hl 4 rfl) ?_
    refine lv_iload_n hx hb dJ7_fill_fda19_12 rfl (lv_at hl 2 rfl) ?_
    refine lv_icmp_ge (tgt := 27) hx hb dJ7_fill_fda19_13 (by decide) (fun c => absurd c (nI_ge (show n1 + k < n2 by omega) (by omega))) (fun _ => ?_)
    refine lv_aload_n hx hb dJ7_fill_fda19_16 rfl (lv_at hl 0 rfl) ?_
    refine lv_iload hx hb dJ7_fill_fda19_17 (lv_at hl 4 rfl) ?_
    refine lv_iload_n hx hb dJ7_fill_fda19_19 rfl (lv_at hl 3 rfl) ?_
    refine va_iast hx hb hK hP hD hS 0 0 rfl rfl (vp_in_nI (by omega) (by omega)) dJ7_fill_fda19_20 (fun H locs hP hD hS => ?_)
    have hP : va_P g.1 classes [(a0, .inl (cI g, n0, .inl (upd f1 (nI (n1 + k)).toNatClampNeg v)))] H := hP
    have hD : va_D A [(a0, .inl (cI g, n0, .inl (upd f1 (nI (n1 + k)).toNatClampNeg v)))] := hD
    rw [nI_clamp (show (n1 + k) < 2 ^ 31 by omega)] at hP hD
    refine lv_iinc (v := nI ((n1 + k) + 1)) (lv' := [(4, .int (nI ((n1 + k) + 1))), (0, .ref a0), (1, .int (nI n1)), (2, .int (nI n2)), (3, .int v)]) hx hb dJ7_fill_fda19_21 hl (k := 4) rfl (nI_1 _) (by decide) rfl (fun ls hl => ?_)
    refine lv_goto (tgt := 10) hx hb dJ7_fill_fda19_24 (by decide) ?_
    exact ih _ _ _ ⟨_, hP, hD, hS, lv_sub hl [1, 2, 3, 4, 0] rfl⟩
  · intro H locs ls hI
    obtain ⟨f1, hP, hD, hS, hl⟩ := hI
    refine lv_iload hx hb dJ7_fill_fda19_10 (lv_at hl 4 rfl) ?_
    refine lv_iload_n hx hb dJ7_fill_fda19_12 rfl (lv_at hl 2 rfl) ?_
    refine lv_icmp_ge (tgt := 27) hx hb dJ7_fill_fda19_13 (by decide) (fun _ => ?_) (fun c => absurd (nI_le (show n2 ≤ n1 + (n2 - n1) by omega) (by omega)) c)
    exact rV X hK hP hD hS dJ7_fill_fda19_27 (Nat.le_of_ble_eq_true rfl) (Nat.le_of_ble_eq_true rfl) ⟨_, rfl⟩

set_option maxRecDepth 200000 in
theorem q_126 : Cond.fieldLink "CityRoad$Shelf" 22 "CityRoad$Shelf" "rows" "I" ∈ tb := tb_mem 126 (by decide +kernel) rfl
set_option maxRecDepth 200000 in
theorem q_128 : Cond.fieldLink "CityRoad$Shelf" 9 "CityRoad$Shelf" "sizes" "[I" ∈ tb := tb_mem 128 (by decide +kernel) rfl
set_option maxRecDepth 200000 in
theorem q_146 : Cond.fieldLink "CityRoad$Ground" 11 "CityRoad$Ground" "sorts" "[I" ∈ tb := tb_mem 146 (by decide +kernel) rfl
set_option maxRecDepth 200000 in
theorem q_147 : Cond.fieldLink "CityRoad$Ground" 15 "CityRoad$Ground" "heights" "[I" ∈ tb := tb_mem 147 (by decide +kernel) rfl
set_option maxRecDepth 200000 in
theorem q_167 : Cond.fieldLink "CityRoad$Buildings" 36 "CityRoad$Buildings" "onCells" "[I" ∈ tb := tb_mem 167 (by decide +kernel) rfl
set_option maxRecDepth 200000 in
theorem q_210 : Cond.fieldLink "CityRoad$Persons" 11 "CityRoad$Persons" "homes" "[I" ∈ tb := tb_mem 210 (by decide +kernel) rfl
set_option maxRecDepth 200000 in
theorem q_211 : Cond.fieldLink "CityRoad$Persons" 15 "CityRoad$Persons" "works" "[I" ∈ tb := tb_mem 211 (by decide +kernel) rfl
set_option maxRecDepth 200000 in
theorem q_212 : Cond.fieldLink "CityRoad$Persons" 18 "CityRoad$Persons" "cars" "[Z" ∈ tb := tb_mem 212 (by decide +kernel) rfl
set_option maxRecDepth 200000 in
theorem q_213 : Cond.fieldLink "CityRoad$Persons" 22 "CityRoad$Persons" "kins" "[I" ∈ tb := tb_mem 213 (by decide +kernel) rfl
set_option maxRecDepth 200000 in
theorem q_251 : Cond.fieldLink "CityRoad$Marks" 11 "CityRoad$Marks" "kinds" "[I" ∈ tb := tb_mem 251 (by decide +kernel) rfl
set_option maxRecDepth 200000 in
theorem q_252 : Cond.fieldLink "CityRoad$Marks" 15 "CityRoad$Marks" "days" "[I" ∈ tb := tb_mem 252 (by decide +kernel) rfl
set_option maxRecDepth 200000 in
theorem q_253 : Cond.fieldLink "CityRoad$Marks" 18 "CityRoad$Marks" "hangs" "[I" ∈ tb := tb_mem 253 (by decide +kernel) rfl
set_option maxRecDepth 200000 in
theorem q_258 : Cond.fieldLink "CityRoad$Marks" 36 "CityRoad$Marks" "shownDays" "[I" ∈ tb := tb_mem 258 (by decide +kernel) rfl
set_option maxRecDepth 200000 in
theorem q_35 : Cond.selects "CityRoad" yX11_weighingFault yX11_weighingFault ∈ tb := tb_mem 35 (by decide +kernel) rfl
set_option maxRecDepth 200000 in
theorem q_89 : Cond.initialized "CityRoad" ∈ tb := tb_mem 89 (by decide +kernel) rfl
