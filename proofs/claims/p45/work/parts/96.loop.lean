
theorem gdL_law_18 : decode cL_law 18 = .ok (.iload_n 3, 1) := by decide +kernel
theorem gdL_law_19 : decode cL_law 19 = .ok (.aload_n 0, 1) := by decide +kernel
theorem gdL_law_20 : decode cL_law 20 = .ok (.arraylength, 1) := by decide +kernel
theorem gdL_law_21 : decode cL_law 21 = .ok (.bipush 6, 2) := by decide +kernel
theorem gdL_law_23 : decode cL_law 23 = .ok (.isub, 1) := by decide +kernel
theorem gdL_law_24 : decode cL_law 24 = .ok (.if_icmp .gt 1934, 3) := by decide +kernel
theorem gdL_law_1958 : decode cL_law 1958 = .ok (.iconst 1, 1) := by decide +kernel
theorem gdL_law_1952 : decode cL_law 1952 = .ok (.iinc 3 6, 3) := by decide +kernel
theorem gdL_law_1955 : decode cL_law 1955 = .ok (.goto (-1937), 3) := by decide +kernel
theorem gdL_law_27 : decode cL_law 27 = .ok (.aload_n 0, 1) := by decide +kernel
theorem gdL_law_28 : decode cL_law 28 = .ok (.iload_n 3, 1) := by decide +kernel
theorem gdL_law_29 : decode cL_law 29 = .ok (.iaload, 1) := by decide +kernel
theorem gdL_law_30 : decode cL_law 30 = .ok (.bipush 63, 2) := by decide +kernel
theorem gdL_law_32 : decode cL_law 32 = .ok (.iand, 1) := by decide +kernel
theorem gdL_law_33 : decode cL_law 33 = .ok (.tableswitch 1919 0 53 #[231, 264, 307, 330, 393, 426, 469, 492, 515, 558, 611, 644, 677, 710, 779, 812, 835, 868, 911, 954, 997, 1030, 1063, 1086, 1119, 1162, 1195, 1248, 1281, 1314, 1337, 1360, 1383, 1416, 1449, 1472, 1495, 1528, 1561, 1584, 1607, 1620, 1633, 1656, 1679, 1712, 1745, 1788, 1821, 1834, 1847, 1870, 1883, 1906], 231) := by decide +kernel

theorem i32L (L : Nat) : Int32.ofNat L = Int32.ofInt (L : Int) := Int32.ofInt_eq_ofNat.symm
set_option maxHeartbeats 8000000 in
set_option maxRecDepth 100000 in
theorem law_loop (l : Launch) (g : GG) {p : Program} {e : Env} {s : State} {m : MethodId} {below : List Frame} {meth : Method} {c : Code} {b L : Nat} {scr : Nat → Int32} {A : Nat → Prop} {Q : State → Prop} {cells slots : Nat} {adC adM : Nat → Nat} (X : En p s m #[Value.ref b] meth c cL_law 4 ret R_law meth.name) (hK : va_K g.1 classes (tyG g) s) (hA : ∀ q, s.heap.size ≤ q → A q) (hZ : stS g A s s.heap) (hX : va_X b L scr s s.heap) (hbl : b < s.heap.size) (hbA : ¬ A b) (hcs : cells + 0 ≤ room_1.cells ∧ slots + 0 ≤ room_1.slots) (hL : L ≤ 3072)
    (kQ : ∀ (H : Heap) (locs : List Loc) (ls : Array Slot), va_S A s.heap H locs → W p l e room_1 s m #[Value.ref b] below meth c H locs cells slots Q (F0 m 1959 ls [.int 1])) : ∀ (n k : Nat) (i : Int) (oC oM : OO) (H : Heap) (locs : List Loc) (ls : Array Slot), i = 6 * (k : Int) → i ≤ 3072 → (L : Int) - i ≤ 6 * (n : Int) → INVC oC (740000 * (k : Int)) → INVM oM → REL oC oM → va_P g.1 classes (wC g adC oC ++ wM g adM oM) H → va_D A (wC g adC oC ++ wM g adM oM) → va_S A s.heap H locs → lv_has ls 4 [(3, iv i), (2, .ref (adM 0)), (1, .ref (adC 0)), (0, .ref b)] → W p l e room_1 s m #[Value.ref b] below meth c H locs cells slots Q (F0 m 18 ls []) := by
  have hx := X.1
  have hb := X.2.1
  intro n
  induction n with
  | zero =>
    intro k i oC oM H locs ls hi hm hn invC invM hR hP hD hS hl
    refine lv_iload_n hx hb gdL_law_18 rfl (lv_at hl 0 rfl) ?_
    refine lv_aload_n hx hb gdL_law_19 rfl (lv_at hl 3 rfl) ?_
    refine va_slen hx hb hX hbl hbA hS gdL_law_20 ?_
    refine lv_topk (i32L L) ?_
    refine lv_bipush (v := Int32.ofInt 6) hx hb gdL_law_21 (by decide) ?_
    refine lv_isub hx hb gdL_law_23 (lv_topk (oi_sub _ 6) ?_)
    refine lv_icmp_gt (tgt := 1958) hx hb gdL_law_24 (by decide) (fun _ => ?_) (fun q => absurd ((oi_lt ⟨by omega, by omega⟩ ⟨by omega, by omega⟩).mpr (by omega)) q)
    refine lv_iconst (v := 1) hx hb gdL_law_1958 (by decide) ?_
    exact kQ _ _ _ hS
  | succ n ih =>
    intro k i oC oM H locs ls hi hm hn invC invM hR hP hD hS hl
    refine lv_iload_n hx hb gdL_law_18 rfl (lv_at hl 0 rfl) ?_
    refine lv_aload_n hx hb gdL_law_19 rfl (lv_at hl 3 rfl) ?_
    refine va_slen hx hb hX hbl hbA hS gdL_law_20 ?_
    refine lv_topk (i32L L) ?_
    refine lv_bipush (v := Int32.ofInt 6) hx hb gdL_law_21 (by decide) ?_
    refine lv_isub hx hb gdL_law_23 (lv_topk (oi_sub _ 6) ?_)
    refine lv_icmp_gt (tgt := 1958) hx hb gdL_law_24 (by decide) (fun _ => ?_) (fun q => ?_)
    · refine lv_iconst (v := 1) hx hb gdL_law_1958 (by decide) ?_
      exact kQ _ _ _ hS
    have i1 : i + 6 ≤ (L : Int) := by
      apply Classical.byContradiction
      intro h
      exact q ((oi_lt ⟨by omega, by omega⟩ ⟨by omega, by omega⟩).mpr (by omega))
    have kend : ∀ (oC oM : OO) (H : Heap) (locs : List Loc) (ls : Array Slot), INVC oC (740000 * (k : Int) + 740000) → INVM oM → REL oC oM → va_P g.1 classes (wC g adC oC ++ wM g adM oM) H → va_D A (wC g adC oC ++ wM g adM oM) → va_S A s.heap H locs → lv_has ls 4 [(3, iv i), (2, .ref (adM 0)), (1, .ref (adC 0)), (0, .ref b)] → W p l e room_1 s m #[Value.ref b] below meth c H locs cells slots Q (F0 m 1952 ls []) := by
      intro oC oM H locs ls invC invM hR hP hD hS hl
      refine lv_iinc (v := Int32.ofInt (i + 6)) (k := 0) (lv' := [(3, iv (i + 6)), (2, .ref (adM 0)), (1, .ref (adC 0)), (0, .ref b)]) hx hb gdL_law_1952 hl rfl (oi_add i 6) (by decide) rfl (fun ls hl => ?_)
      refine lv_goto (tgt := 18) hx hb gdL_law_1955 (by decide) ?_
      exact ih (k + 1) (i + 6) oC oM H locs ls (by omega) (by omega) (by omega) (by rw [show 740000 * ((k + 1 : Nat) : Int) = 740000 * (k : Int) + 740000 by omega]; exact invC) invM hR hP hD hS hl
    refine lv_aload_n hx hb gdL_law_27 rfl (lv_at hl 3 rfl) ?_
    refine lv_iload_n hx hb gdL_law_28 rfl (lv_at hl 0 rfl) ?_
    refine va_sld hx hb hX hbl hbA hS (oi_in ⟨by omega, by omega⟩ (by omega)).1 gdL_law_29 ?_
    refine lv_bipush (v := 63) hx hb gdL_law_30 (by decide) ?_
    refine lv_iand hx hb gdL_law_32 ?_
    obtain ⟨j, hj, ej⟩ := pk_andE (scr (Int32.ofInt i).toNatClampNeg) (m := 63) 6 (by decide)
    refine lv_topk (v := nI j) ej ?_
    by_cases hk0 : j = 0
    · subst hk0
      refine lv_tableIn (off := 231) (tgt := 264) hx hb gdL_law_33 (by decide) (by decide) (by decide) (by decide) ?_
      exact law_0 l g X hK hA hZ hX hbl hbA hcs hL (by omega) i1 (by omega) (by omega) invC invM hR hP hD hS hl kend
    by_cases hk1 : j = 1
    · subst hk1
      refine lv_tableIn (off := 264) (tgt := 297) hx hb gdL_law_33 (by decide) (by decide) (by decide) (by decide) ?_
      exact law_1 l g X hK hA hZ hX hbl hbA hcs hL (by omega) i1 (by omega) (by omega) invC invM hR hP hD hS hl kend
    by_cases hk2 : j = 2
    · subst hk2
      refine lv_tableIn (off := 307) (tgt := 340) hx hb gdL_law_33 (by decide) (by decide) (by decide) (by decide) ?_
      exact law_2 l g X hK hA hZ hX hbl hbA hcs hL (by omega) i1 (by omega) (by omega) invC invM hR hP hD hS hl kend
    by_cases hk3 : j = 3
    · subst hk3
      refine lv_tableIn (off := 330) (tgt := 363) hx hb gdL_law_33 (by decide) (by decide) (by decide) (by decide) ?_
      exact law_3 l g X hK hA hZ hX hbl hbA hcs hL (by omega) i1 (by omega) (by omega) invC invM hR hP hD hS hl kend
    by_cases hk4 : j = 4
    · subst hk4
      refine lv_tableIn (off := 393) (tgt := 426) hx hb gdL_law_33 (by decide) (by decide) (by decide) (by decide) ?_
      exact law_4 l g X hK hA hZ hX hbl hbA hcs hL (by omega) i1 (by omega) (by omega) invC invM hR hP hD hS hl kend
    by_cases hk5 : j = 5
    · subst hk5
      refine lv_tableIn (off := 426) (tgt := 459) hx hb gdL_law_33 (by decide) (by decide) (by decide) (by decide) ?_
      exact law_5 l g X hK hA hZ hX hbl hbA hcs hL (by omega) i1 (by omega) (by omega) invC invM hR hP hD hS hl kend
    by_cases hk6 : j = 6
    · subst hk6
      refine lv_tableIn (off := 469) (tgt := 502) hx hb gdL_law_33 (by decide) (by decide) (by decide) (by decide) ?_
      exact law_6 l g X hK hA hZ hX hbl hbA hcs hL (by omega) i1 (by omega) (by omega) invC invM hR hP hD hS hl kend
    by_cases hk7 : j = 7
    · subst hk7
      refine lv_tableIn (off := 492) (tgt := 525) hx hb gdL_law_33 (by decide) (by decide) (by decide) (by decide) ?_
      exact law_7 l g X hK hA hZ hX hbl hbA hcs hL (by omega) i1 (by omega) (by omega) invC invM hR hP hD hS hl kend
    by_cases hk8 : j = 8
    · subst hk8
      refine lv_tableIn (off := 515) (tgt := 548) hx hb gdL_law_33 (by decide) (by decide) (by decide) (by decide) ?_
      exact law_8 l g X hK hA hZ hX hbl hbA hcs hL (by omega) i1 (by omega) (by omega) invC invM hR hP hD hS hl kend
    by_cases hk9 : j = 9
    · subst hk9
      refine lv_tableIn (off := 558) (tgt := 591) hx hb gdL_law_33 (by decide) (by decide) (by decide) (by decide) ?_
      exact law_9 l g X hK hA hZ hX hbl hbA hcs hL (by omega) i1 (by omega) (by omega) invC invM hR hP hD hS hl kend
    by_cases hk10 : j = 10
    · subst hk10
      refine lv_tableIn (off := 611) (tgt := 644) hx hb gdL_law_33 (by decide) (by decide) (by decide) (by decide) ?_
      exact law_10 l g X hK hA hZ hX hbl hbA hcs hL (by omega) i1 (by omega) (by omega) invC invM hR hP hD hS hl kend
    by_cases hk11 : j = 11
    · subst hk11
      refine lv_tableIn (off := 644) (tgt := 677) hx hb gdL_law_33 (by decide) (by decide) (by decide) (by decide) ?_
      exact law_11 l g X hK hA hZ hX hbl hbA hcs hL (by omega) i1 (by omega) (by omega) invC invM hR hP hD hS hl kend
    by_cases hk12 : j = 12
    · subst hk12
      refine lv_tableIn (off := 677) (tgt := 710) hx hb gdL_law_33 (by decide) (by decide) (by decide) (by decide) ?_
      exact law_12 l g X hK hA hZ hX hbl hbA hcs hL (by omega) i1 (by omega) (by omega) invC invM hR hP hD hS hl kend
    by_cases hk13 : j = 13
    · subst hk13
      refine lv_tableIn (off := 710) (tgt := 743) hx hb gdL_law_33 (by decide) (by decide) (by decide) (by decide) ?_
      exact law_13 l g X hK hA hZ hX hbl hbA hcs hL (by omega) i1 (by omega) (by omega) invC invM hR hP hD hS hl kend
    by_cases hk14 : j = 14
    · subst hk14
      refine lv_tableIn (off := 779) (tgt := 812) hx hb gdL_law_33 (by decide) (by decide) (by decide) (by decide) ?_
      exact law_14 l g X hK hA hZ hX hbl hbA hcs hL (by omega) i1 (by omega) (by omega) invC invM hR hP hD hS hl kend
    by_cases hk15 : j = 15
    · subst hk15
      refine lv_tableIn (off := 812) (tgt := 845) hx hb gdL_law_33 (by decide) (by decide) (by decide) (by decide) ?_
      exact law_15 l g X hK hA hZ hX hbl hbA hcs hL (by omega) i1 (by omega) (by omega) invC invM hR hP hD hS hl kend
    by_cases hk16 : j = 16
    · subst hk16
      refine lv_tableIn (off := 835) (tgt := 868) hx hb gdL_law_33 (by decide) (by decide) (by decide) (by decide) ?_
      exact law_16 l g X hK hA hZ hX hbl hbA hcs hL (by omega) i1 (by omega) (by omega) invC invM hR hP hD hS hl kend
    by_cases hk17 : j = 17
    · subst hk17
      refine lv_tableIn (off := 868) (tgt := 901) hx hb gdL_law_33 (by decide) (by decide) (by decide) (by decide) ?_
      exact law_17 l g X hK hA hZ hX hbl hbA hcs hL (by omega) i1 (by omega) (by omega) invC invM hR hP hD hS hl kend
    by_cases hk18 : j = 18
    · subst hk18
      refine lv_tableIn (off := 911) (tgt := 944) hx hb gdL_law_33 (by decide) (by decide) (by decide) (by decide) ?_
      exact law_18 l g X hK hA hZ hX hbl hbA hcs hL (by omega) i1 (by omega) (by omega) invC invM hR hP hD hS hl kend
    by_cases hk19 : j = 19
    · subst hk19
      refine lv_tableIn (off := 954) (tgt := 987) hx hb gdL_law_33 (by decide) (by decide) (by decide) (by decide) ?_
      exact law_19 l g X hK hA hZ hX hbl hbA hcs hL (by omega) i1 (by omega) (by omega) invC invM hR hP hD hS hl kend
    by_cases hk20 : j = 20
    · subst hk20
      refine lv_tableIn (off := 997) (tgt := 1030) hx hb gdL_law_33 (by decide) (by decide) (by decide) (by decide) ?_
      exact law_20 l g X hK hA hZ hX hbl hbA hcs hL (by omega) i1 (by omega) (by omega) invC invM hR hP hD hS hl kend
    by_cases hk21 : j = 21
    · subst hk21
      refine lv_tableIn (off := 1030) (tgt := 1063) hx hb gdL_law_33 (by decide) (by decide) (by decide) (by decide) ?_
      exact law_21 l g X hK hA hZ hX hbl hbA hcs hL (by omega) i1 (by omega) (by omega) invC invM hR hP hD hS hl kend
    by_cases hk22 : j = 22
    · subst hk22
      refine lv_tableIn (off := 1063) (tgt := 1096) hx hb gdL_law_33 (by decide) (by decide) (by decide) (by decide) ?_
      exact law_22 l g X hK hA hZ hX hbl hbA hcs hL (by omega) i1 (by omega) (by omega) invC invM hR hP hD hS hl kend
    by_cases hk23 : j = 23
    · subst hk23
      refine lv_tableIn (off := 1086) (tgt := 1119) hx hb gdL_law_33 (by decide) (by decide) (by decide) (by decide) ?_
      exact law_23 l g X hK hA hZ hX hbl hbA hcs hL (by omega) i1 (by omega) (by omega) invC invM hR hP hD hS hl kend
    by_cases hk24 : j = 24
    · subst hk24
      refine lv_tableIn (off := 1119) (tgt := 1152) hx hb gdL_law_33 (by decide) (by decide) (by decide) (by decide) ?_
      exact law_24 l g X hK hA hZ hX hbl hbA hcs hL (by omega) i1 (by omega) (by omega) invC invM hR hP hD hS hl kend
    by_cases hk25 : j = 25
    · subst hk25
      refine lv_tableIn (off := 1162) (tgt := 1195) hx hb gdL_law_33 (by decide) (by decide) (by decide) (by decide) ?_
      exact law_25 l g X hK hA hZ hX hbl hbA hcs hL (by omega) i1 (by omega) (by omega) invC invM hR hP hD hS hl kend
    by_cases hk26 : j = 26
    · subst hk26
      refine lv_tableIn (off := 1195) (tgt := 1228) hx hb gdL_law_33 (by decide) (by decide) (by decide) (by decide) ?_
      exact law_26 l g X hK hA hZ hX hbl hbA hcs hL (by omega) i1 (by omega) (by omega) invC invM hR hP hD hS hl kend
    by_cases hk27 : j = 27
    · subst hk27
      refine lv_tableIn (off := 1248) (tgt := 1281) hx hb gdL_law_33 (by decide) (by decide) (by decide) (by decide) ?_
      exact law_27 l g X hK hA hZ hX hbl hbA hcs hL (by omega) i1 (by omega) (by omega) invC invM hR hP hD hS hl kend
    by_cases hk28 : j = 28
    · subst hk28
      refine lv_tableIn (off := 1281) (tgt := 1314) hx hb gdL_law_33 (by decide) (by decide) (by decide) (by decide) ?_
      exact law_28 l g X hK hA hZ hX hbl hbA hcs hL (by omega) i1 (by omega) (by omega) invC invM hR hP hD hS hl kend
    by_cases hk29 : j = 29
    · subst hk29
      refine lv_tableIn (off := 1314) (tgt := 1347) hx hb gdL_law_33 (by decide) (by decide) (by decide) (by decide) ?_
      exact law_29 l g X hK hA hZ hX hbl hbA hcs hL (by omega) i1 (by omega) (by omega) invC invM hR hP hD hS hl kend
    by_cases hk30 : j = 30
    · subst hk30
      refine lv_tableIn (off := 1337) (tgt := 1370) hx hb gdL_law_33 (by decide) (by decide) (by decide) (by decide) ?_
      exact law_30 l g X hK hA hZ hX hbl hbA hcs hL (by omega) i1 (by omega) (by omega) invC invM hR hP hD hS hl kend
    by_cases hk31 : j = 31
    · subst hk31
      refine lv_tableIn (off := 1360) (tgt := 1393) hx hb gdL_law_33 (by decide) (by decide) (by decide) (by decide) ?_
      exact law_31 l g X hK hA hZ hX hbl hbA hcs hL (by omega) i1 (by omega) (by omega) invC invM hR hP hD hS hl kend
    by_cases hk32 : j = 32
    · subst hk32
      refine lv_tableIn (off := 1383) (tgt := 1416) hx hb gdL_law_33 (by decide) (by decide) (by decide) (by decide) ?_
      exact law_32 l g X hK hA hZ hX hbl hbA hcs hL (by omega) i1 (by omega) (by omega) invC invM hR hP hD hS hl kend
    by_cases hk33 : j = 33
    · subst hk33
      refine lv_tableIn (off := 1416) (tgt := 1449) hx hb gdL_law_33 (by decide) (by decide) (by decide) (by decide) ?_
      exact law_33 l g X hK hA hZ hX hbl hbA hcs hL (by omega) i1 (by omega) (by omega) invC invM hR hP hD hS hl kend
    by_cases hk34 : j = 34
    · subst hk34
      refine lv_tableIn (off := 1449) (tgt := 1482) hx hb gdL_law_33 (by decide) (by decide) (by decide) (by decide) ?_
      exact law_34 l g X hK hA hZ hX hbl hbA hcs hL (by omega) i1 (by omega) (by omega) invC invM hR hP hD hS hl kend
    by_cases hk35 : j = 35
    · subst hk35
      refine lv_tableIn (off := 1472) (tgt := 1505) hx hb gdL_law_33 (by decide) (by decide) (by decide) (by decide) ?_
      exact law_35 l g X hK hA hZ hX hbl hbA hcs hL (by omega) i1 (by omega) (by omega) invC invM hR hP hD hS hl kend
    by_cases hk36 : j = 36
    · subst hk36
      refine lv_tableIn (off := 1495) (tgt := 1528) hx hb gdL_law_33 (by decide) (by decide) (by decide) (by decide) ?_
      exact law_36 l g X hK hA hZ hX hbl hbA hcs hL (by omega) i1 (by omega) (by omega) invC invM hR hP hD hS hl kend
    by_cases hk37 : j = 37
    · subst hk37
      refine lv_tableIn (off := 1528) (tgt := 1561) hx hb gdL_law_33 (by decide) (by decide) (by decide) (by decide) ?_
      exact law_37 l g X hK hA hZ hX hbl hbA hcs hL (by omega) i1 (by omega) (by omega) invC invM hR hP hD hS hl kend
    by_cases hk38 : j = 38
    · subst hk38
      refine lv_tableIn (off := 1561) (tgt := 1594) hx hb gdL_law_33 (by decide) (by decide) (by decide) (by decide) ?_
      exact law_38 l g X hK hA hZ hX hbl hbA hcs hL (by omega) i1 (by omega) (by omega) invC invM hR hP hD hS hl kend
    by_cases hk39 : j = 39
    · subst hk39
      refine lv_tableIn (off := 1584) (tgt := 1617) hx hb gdL_law_33 (by decide) (by decide) (by decide) (by decide) ?_
      exact law_39 l g X hK hA hZ hX hbl hbA hcs hL (by omega) i1 (by omega) (by omega) invC invM hR hP hD hS hl kend
    by_cases hk40 : j = 40
    · subst hk40
      refine lv_tableIn (off := 1607) (tgt := 1640) hx hb gdL_law_33 (by decide) (by decide) (by decide) (by decide) ?_
      exact law_40 l g X hK hA hZ hX hbl hbA hcs hL (by omega) i1 (by omega) (by omega) invC invM hR hP hD hS hl kend
    by_cases hk41 : j = 41
    · subst hk41
      refine lv_tableIn (off := 1620) (tgt := 1653) hx hb gdL_law_33 (by decide) (by decide) (by decide) (by decide) ?_
      exact law_41 l g X hK hA hZ hX hbl hbA hcs hL (by omega) i1 (by omega) (by omega) invC invM hR hP hD hS hl kend
    by_cases hk42 : j = 42
    · subst hk42
      refine lv_tableIn (off := 1633) (tgt := 1666) hx hb gdL_law_33 (by decide) (by decide) (by decide) (by decide) ?_
      exact law_42 l g X hK hA hZ hX hbl hbA hcs hL (by omega) i1 (by omega) (by omega) invC invM hR hP hD hS hl kend
    by_cases hk43 : j = 43
    · subst hk43
      refine lv_tableIn (off := 1656) (tgt := 1689) hx hb gdL_law_33 (by decide) (by decide) (by decide) (by decide) ?_
      exact law_43 l g X hK hA hZ hX hbl hbA hcs hL (by omega) i1 (by omega) (by omega) invC invM hR hP hD hS hl kend
    by_cases hk44 : j = 44
    · subst hk44
      refine lv_tableIn (off := 1679) (tgt := 1712) hx hb gdL_law_33 (by decide) (by decide) (by decide) (by decide) ?_
      exact law_44 l g X hK hA hZ hX hbl hbA hcs hL (by omega) i1 (by omega) (by omega) invC invM hR hP hD hS hl kend
    by_cases hk45 : j = 45
    · subst hk45
      refine lv_tableIn (off := 1712) (tgt := 1745) hx hb gdL_law_33 (by decide) (by decide) (by decide) (by decide) ?_
      exact law_45 l g X hK hA hZ hX hbl hbA hcs hL (by omega) i1 (by omega) (by omega) invC invM hR hP hD hS hl kend
    by_cases hk46 : j = 46
    · subst hk46
      refine lv_tableIn (off := 1745) (tgt := 1778) hx hb gdL_law_33 (by decide) (by decide) (by decide) (by decide) ?_
      exact law_46 l g X hK hA hZ hX hbl hbA hcs hL (by omega) i1 (by omega) (by omega) invC invM hR hP hD hS hl kend
    by_cases hk47 : j = 47
    · subst hk47
      refine lv_tableIn (off := 1788) (tgt := 1821) hx hb gdL_law_33 (by decide) (by decide) (by decide) (by decide) ?_
      exact law_47 l g X hK hA hZ hX hbl hbA hcs hL (by omega) i1 (by omega) (by omega) invC invM hR hP hD hS hl kend
    by_cases hk48 : j = 48
    · subst hk48
      refine lv_tableIn (off := 1821) (tgt := 1854) hx hb gdL_law_33 (by decide) (by decide) (by decide) (by decide) ?_
      exact law_48 l g X hK hA hZ hX hbl hbA hcs hL (by omega) i1 (by omega) (by omega) invC invM hR hP hD hS hl kend
    by_cases hk49 : j = 49
    · subst hk49
      refine lv_tableIn (off := 1834) (tgt := 1867) hx hb gdL_law_33 (by decide) (by decide) (by decide) (by decide) ?_
      exact law_49 l g X hK hA hZ hX hbl hbA hcs hL (by omega) i1 (by omega) (by omega) invC invM hR hP hD hS hl kend
    by_cases hk50 : j = 50
    · subst hk50
      refine lv_tableIn (off := 1847) (tgt := 1880) hx hb gdL_law_33 (by decide) (by decide) (by decide) (by decide) ?_
      exact law_50 l g X hK hA hZ hX hbl hbA hcs hL (by omega) i1 (by omega) (by omega) invC invM hR hP hD hS hl kend
    by_cases hk51 : j = 51
    · subst hk51
      refine lv_tableIn (off := 1870) (tgt := 1903) hx hb gdL_law_33 (by decide) (by decide) (by decide) (by decide) ?_
      exact law_51 l g X hK hA hZ hX hbl hbA hcs hL (by omega) i1 (by omega) (by omega) invC invM hR hP hD hS hl kend
    by_cases hk52 : j = 52
    · subst hk52
      refine lv_tableIn (off := 1883) (tgt := 1916) hx hb gdL_law_33 (by decide) (by decide) (by decide) (by decide) ?_
      exact law_52 l g X hK hA hZ hX hbl hbA hcs hL (by omega) i1 (by omega) (by omega) invC invM hR hP hD hS hl kend
    by_cases hk53 : j = 53
    · subst hk53
      refine lv_tableIn (off := 1906) (tgt := 1939) hx hb gdL_law_33 (by decide) (by decide) (by decide) (by decide) ?_
      exact law_53 l g X hK hA hZ hX hbl hbA hcs hL (by omega) i1 (by omega) (by omega) invC invM hR hP hD hS hl kend
    have hn_j : (nI j).toInt = (j : Int) := nI_toInt (by omega)
    refine lv_tableOut (tgt := 1952) hx hb gdL_law_33 (by rw [hn_j]; omega) (by decide) ?_
    exact kend _ _ _ _ _ invC.up invM hR hP hD hS hl
