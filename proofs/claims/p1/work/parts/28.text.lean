


def sp_X11_text0 (g : GG) (x0 : Nat) (r : Int32) (n : Int32) (xr : Nat) (xt : Nat) (xg : Nat) (xb : Nat) (xp : Nat) (xu : Nat) (xm : Nat) (xd : Nat) (xw : Nat) (xh : Nat) (xa : Nat) (xs : Nat) (xf : Nat) (xts : Nat) (xtp : Nat) : Int32 := if r < 0 then (-1) else (if 4 ≤ r then (-1) else (if n ≤ 40 then (if 0 ≤ n then n else (-3)) else (-1)))
set_option maxHeartbeats 4000000 in
set_option maxRecDepth 100000 in
theorem c_X11_text0 (l : Launch) (g : GG) (x0 : Nat) (r : Int32) (n : Int32) (xr : Nat) (xt : Nat) (xg : Nat) (xb : Nat) (xp : Nat) (xu : Nat) (xm : Nat) (xd : Nat) (xw : Nat) (xh : Nat) (xa : Nat) (xs : Nat) (xf : Nat) (xts : Nat) (xtp : Nat) : MI l g yX11_text cX11_text 3 (some .int) 3 68 0 0 [(x0, .inr (11, [.ref xr, .ref xt, .ref xg, .ref xb, .ref xp, .ref xu, .ref xm, .ref xd, .ref xw, .ref xh, .ref xa, .ref xs, .ref xf, .int 0, .int 0, .long 0, .long 0, .int 0])), (xt, .inr (8, [.int 4, .int 32, .ref xts, .ref xtp])), (xts, .inl (cI g, 6, .inl (fun _ => (-1)))), (xtp, .inl (cI g, 240, .inl (fun _ => 0))), (xf, .inl (cI g, 6, .inl (fun _ => 0)))] [.ref x0, .int r, .int n] (fun rr_ _ => rr_ = sp_X11_text0 g x0 r n xr xt xg xb xp xu xm xd xw xh xa xs xf xts xtp) := by
  refine met_of (fun A => va_Qi _ (bW g A) A) (by decide) (Nat.le_of_ble_eq_true rfl) ?_
  intro p e s m below meth c A ls X hK hP hD hA hZ hS hl
  have hx := X.1
  have hb := X.2.1
  have hml := X.2.2.1
  have hown := X.2.2.2.1
  have hts := X.2.2.2.2.1
  have hnm := X.2.2.2.2.2.2.2
  have hl : lv_has ls 3 [(0, .ref x0), (1, .int r), (2, .int n)] := hl
  refine lv_aload_n hx hb dX11_text_0 rfl (lv_at hl 0 rfl) ?_
  refine va_get (D := g.1) (ci := 11) (v := .ref xt) (C := RX11) (T := TX11) (N := 18) hx hb hts fw_X11 hown hK hP 0 rfl rfl 1 (by decide) (hts _ q_459) (fun _ h9 => h9) rfl dX11_text_1 ?_
  refine lv_iload_n hx hb dX11_text_4 rfl (lv_at hl 1 rfl) ?_
  refine kVi (As := [.int r]) (rest := []) (wr := [(x0, .inr (11, [.ref xr, .ref xt, .ref xg, .ref xb, .ref xp, .ref xu, .ref xm, .ref xd, .ref xw, .ref xh, .ref xa, .ref xs, .ref xf, .int 0, .int 0, .long 0, .long 0, .int 0])), (xts, .inl (cI g, 6, .inl (fun _ => (-1)))), (xtp, .inl (cI g, 240, .inl (fun _ => 0))), (xf, .inl (cI g, 6, .inl (fun _ => 0)))]) X (c_X8_exists l g xt r 4 32 xts xtp) ok_X8_exists okv_X8_exists q_517 rfl hK hP hD hS hA hZ hl.1 [1] [0, 2, 3, 4] rfl rfl rfl rfl rfl 0 8 rfl rfl rfl (Nat.le_of_ble_eq_true rfl) ⟨Nat.le_of_ble_eq_true rfl, Nat.le_of_ble_eq_true rfl⟩ dX11_text_5 ⟨Nat.le_of_ble_eq_true rfl, Nat.le_of_ble_eq_true rfl⟩ (fun r_1 w1 H locs hw_2 hP hD hS => ?_)
  rw [sp_X8_exists] at hw_2
  rcases Classical.em (r < 0) with c_3 | c_3
  ·
    rw [if_pos c_3] at hw_2
    obtain ⟨e1, e2⟩ := Prod.mk.inj hw_2
    subst e1; subst e2
    have hP : va_P g.1 classes [(x0, .inr (11, [.ref xr, .ref xt, .ref xg, .ref xb, .ref xp, .ref xu, .ref xm, .ref xd, .ref xw, .ref xh, .ref xa, .ref xs, .ref xf, .int 0, .int 0, .long 0, .long 0, .int 0])), (xts, .inl (cI g, 6, .inl (fun _ => (-1)))), (xtp, .inl (cI g, 240, .inl (fun _ => 0))), (xf, .inl (cI g, 6, .inl (fun _ => 0))), (xt, .inr (8, [.int 4, .int 32, .ref xts, .ref xtp]))] H := hP
    have hD : va_D A [(x0, .inr (11, [.ref xr, .ref xt, .ref xg, .ref xb, .ref xp, .ref xu, .ref xm, .ref xd, .ref xw, .ref xh, .ref xa, .ref xs, .ref xf, .int 0, .int 0, .long 0, .long 0, .int 0])), (xts, .inl (cI g, 6, .inl (fun _ => (-1)))), (xtp, .inl (cI g, 240, .inl (fun _ => 0))), (xf, .inl (cI g, 6, .inl (fun _ => 0))), (xt, .inr (8, [.int 4, .int 32, .ref xts, .ref xtp]))] := hD
    refine lv_if_eq (tgt := 17) hx hb dX11_text_8 (by decide) (fun _ => ?_) (fun c_4 => absurd (by decide) c_4)
    refine lv_iconst (v := (-1)) hx hb dX11_text_17 (by decide) ?_
    exact rI X hK hP hD hS dX11_text_18 (by rfl) (Nat.le_of_ble_eq_true rfl) (Nat.le_of_ble_eq_true rfl) (by show _ = _; unfold sp_X11_text0; rw [if_pos c_3]; try rfl)
  ·
    rw [if_neg c_3] at hw_2
    rcases Classical.em (4 ≤ r) with c_5 | c_5
    ·
      rw [if_pos c_5] at hw_2
      obtain ⟨e1, e2⟩ := Prod.mk.inj hw_2
      subst e1; subst e2
      have hP : va_P g.1 classes [(x0, .inr (11, [.ref xr, .ref xt, .ref xg, .ref xb, .ref xp, .ref xu, .ref xm, .ref xd, .ref xw, .ref xh, .ref xa, .ref xs, .ref xf, .int 0, .int 0, .long 0, .long 0, .int 0])), (xts, .inl (cI g, 6, .inl (fun _ => (-1)))), (xtp, .inl (cI g, 240, .inl (fun _ => 0))), (xf, .inl (cI g, 6, .inl (fun _ => 0))), (xt, .inr (8, [.int 4, .int 32, .ref xts, .ref xtp]))] H := hP
      have hD : va_D A [(x0, .inr (11, [.ref xr, .ref xt, .ref xg, .ref xb, .ref xp, .ref xu, .ref xm, .ref xd, .ref xw, .ref xh, .ref xa, .ref xs, .ref xf, .int 0, .int 0, .long 0, .long 0, .int 0])), (xts, .inl (cI g, 6, .inl (fun _ => (-1)))), (xtp, .inl (cI g, 240, .inl (fun _ => 0))), (xf, .inl (cI g, 6, .inl (fun _ => 0))), (xt, .inr (8, [.int 4, .int 32, .ref xts, .ref xtp]))] := hD
      refine lv_if_eq (tgt := 17) hx hb dX11_text_8 (by decide) (fun _ => ?_) (fun c_6 => absurd (by decide) c_6)
      refine lv_iconst (v := (-1)) hx hb dX11_text_17 (by decide) ?_
      exact rI X hK hP hD hS dX11_text_18 (by rfl) (Nat.le_of_ble_eq_true rfl) (Nat.le_of_ble_eq_true rfl) (by show _ = _; unfold sp_X11_text0; rw [if_neg c_3, if_pos c_5]; try rfl)
    ·
      rw [if_neg c_5] at hw_2
      obtain ⟨e1, e2⟩ := Prod.mk.inj hw_2
      subst e1; subst e2
      have hP : va_P g.1 classes [(x0, .inr (11, [.ref xr, .ref xt, .ref xg, .ref xb, .ref xp, .ref xu, .ref xm, .ref xd, .ref xw, .ref xh, .ref xa, .ref xs, .ref xf, .int 0, .int 0, .long 0, .long 0, .int 0])), (xts, .inl (cI g, 6, .inl (fun _ => (-1)))), (xtp, .inl (cI g, 240, .inl (fun _ => 0))), (xf, .inl (cI g, 6, .inl (fun _ => 0))), (xt, .inr (8, [.int 4, .int 32, .ref xts, .ref xtp]))] H := hP
      have hD : va_D A [(x0, .inr (11, [.ref xr, .ref xt, .ref xg, .ref xb, .ref xp, .ref xu, .ref xm, .ref xd, .ref xw, .ref xh, .ref xa, .ref xs, .ref xf, .int 0, .int 0, .long 0, .long 0, .int 0])), (xts, .inl (cI g, 6, .inl (fun _ => (-1)))), (xtp, .inl (cI g, 240, .inl (fun _ => 0))), (xf, .inl (cI g, 6, .inl (fun _ => 0))), (xt, .inr (8, [.int 4, .int 32, .ref xts, .ref xtp]))] := hD
      refine lv_if_eq (tgt := 17) hx hb dX11_text_8 (by decide) (fun c_7 => absurd c_7 (by decide)) (fun _ => ?_)
      refine lv_iload_n hx hb dX11_text_11 rfl (lv_at hl 2 rfl) ?_
      refine lv_bipush (v := 40) hx hb dX11_text_12 (by decide) ?_
      refine lv_icmp_le (tgt := 19) hx hb dX11_text_14 (by decide) (fun c_8 => ?_) (fun c_8 => ?_)
      ·
        refine lv_iload_n hx hb dX11_text_19 rfl (lv_at hl 2 rfl) ?_
        refine lv_if_ge (tgt := 29) hx hb dX11_text_20 (by decide) (fun c_9 => ?_) (fun c_9 => ?_)
        ·
          refine lv_aload_n hx hb dX11_text_29 rfl (lv_at hl 0 rfl) ?_
          refine va_get (D := g.1) (ci := 11) (v := .ref xt) (C := RX11) (T := TX11) (N := 18) hx hb hts fw_X11 hown hK hP 0 rfl rfl 1 (by decide) (hts _ q_459) (fun _ h9 => h9) rfl dX11_text_30 ?_
          refine lv_iload_n hx hb dX11_text_33 rfl (lv_at hl 1 rfl) ?_
          obtain ⟨jr, h_jr, e_jr⟩ := natI (x := r) (n := 6) (by simp only [i32lt, i32le, i32eq, Int32.reduceToInt] at c_3 c_5 ⊢; omega) (by simp only [i32lt, i32le, i32eq, Int32.reduceToInt] at c_3 c_5 ⊢; omega) (by decide)
          have hn_jr : (nI jr).toInt = (jr : Int) := nI_toInt (by omega)
          refine lv_topk (v := nI jr) e_jr ?_
          refine lv_iload_n hx hb dX11_text_34 rfl (lv_at hl 2 rfl) ?_
          obtain ⟨jn, h_jn, e_jn⟩ := natI (x := n) (n := 41) (by simp only [i32lt, i32le, i32eq, Int32.reduceToInt] at c_8 c_9 ⊢; omega) (by simp only [i32lt, i32le, i32eq, Int32.reduceToInt] at c_8 c_9 ⊢; omega) (by decide)
          have hn_jn : (nI jn).toInt = (jn : Int) := nI_toInt (by omega)
          refine lv_topk (v := nI jn) e_jn ?_
          refine kVv (As := [.int (nI jr), .int (nI jn)]) (rest := []) (wr := [(x0, .inr (11, [.ref xr, .ref xt, .ref xg, .ref xb, .ref xp, .ref xu, .ref xm, .ref xd, .ref xw, .ref xh, .ref xa, .ref xs, .ref xf, .int 0, .int 0, .long 0, .long 0, .int 0])), (xf, .inl (cI g, 6, .inl (fun _ => 0)))]) X (c_X8_layOut l g jr jn xt 4 32 xts xtp (fun _ => 0) (by first | decide | omega) (by first | decide | omega)) ok_X8_layOut okv_X8_layOut q_525 rfl hK hP hD hS hA hZ hl.1 [4, 1, 2] [0, 3] rfl rfl rfl rfl rfl 0 8 rfl rfl rfl (Nat.le_of_ble_eq_true rfl) ⟨Nat.le_of_ble_eq_true rfl, Nat.le_of_ble_eq_true rfl⟩ dX11_text_35 ⟨Nat.le_of_ble_eq_true rfl, Nat.le_of_ble_eq_true rfl⟩ (fun w1 H locs hw_11 hP hD hS => ?_)
          obtain ⟨q_12, rfl⟩ := hw_11
          have hP : va_P g.1 classes [(x0, .inr (11, [.ref xr, .ref xt, .ref xg, .ref xb, .ref xp, .ref xu, .ref xm, .ref xd, .ref xw, .ref xh, .ref xa, .ref xs, .ref xf, .int 0, .int 0, .long 0, .long 0, .int 0])), (xf, .inl (cI g, 6, .inl (fun _ => 0))), (xt, .inr (8, [.int 4, .int 32, .ref xts, .ref xtp])), (xts, .inl (cI g, 6, .inl (upd (fun _ => (-1)) jr (nI jn)))), (xtp, .inl (cI g, 240, .inl q_12))] H := hP
          have hD : va_D A [(x0, .inr (11, [.ref xr, .ref xt, .ref xg, .ref xb, .ref xp, .ref xu, .ref xm, .ref xd, .ref xw, .ref xh, .ref xa, .ref xs, .ref xf, .int 0, .int 0, .long 0, .long 0, .int 0])), (xf, .inl (cI g, 6, .inl (fun _ => 0))), (xt, .inr (8, [.int 4, .int 32, .ref xts, .ref xtp])), (xts, .inl (cI g, 6, .inl (upd (fun _ => (-1)) jr (nI jn)))), (xtp, .inl (cI g, 240, .inl q_12))] := hD
          refine lv_iload_n hx hb dX11_text_38 rfl (lv_at hl 2 rfl) ?_
          exact rI X hK hP hD hS dX11_text_39 (by rfl) (Nat.le_of_ble_eq_true rfl) (Nat.le_of_ble_eq_true rfl) (by show _ = _; unfold sp_X11_text0; rw [if_neg c_3, if_neg c_5, if_pos c_8, if_pos c_9]; try rfl)
        ·
          refine lv_aload_n hx hb dX11_text_23 rfl (lv_at hl 0 rfl) ?_
          refine lv_iconst (v := 5) hx hb dX11_text_24 (by decide) ?_
          refine kVi (As := [.int 5]) (rest := []) (wr := [(xts, .inl (cI g, 6, .inl (fun _ => (-1)))), (xtp, .inl (cI g, 240, .inl (fun _ => 0))), (xt, .inr (8, [.int 4, .int 32, .ref xts, .ref xtp]))]) X (c_X11_found5 l g x0 xr xt xg xb xp xu xm xd xw xh xa xs xf) ok_X11_found okv_X11_found q_521 rfl hK hP hD hS hA hZ hl.1 [0, 3] [1, 2, 4] rfl rfl rfl rfl rfl 0 11 rfl rfl rfl (Nat.le_of_ble_eq_true rfl) ⟨Nat.le_of_ble_eq_true rfl, Nat.le_of_ble_eq_true rfl⟩ dX11_text_25 ⟨Nat.le_of_ble_eq_true rfl, Nat.le_of_ble_eq_true rfl⟩ (fun r_13 w1 H locs hw_14 hP hD hS => ?_)
          rw [sp_X11_found5] at hw_14
          obtain ⟨e1, e2⟩ := Prod.mk.inj hw_14
          subst e1; subst e2
          have hP : va_P g.1 classes [(xts, .inl (cI g, 6, .inl (fun _ => (-1)))), (xtp, .inl (cI g, 240, .inl (fun _ => 0))), (xt, .inr (8, [.int 4, .int 32, .ref xts, .ref xtp])), (x0, .inr (11, [.ref xr, .ref xt, .ref xg, .ref xb, .ref xp, .ref xu, .ref xm, .ref xd, .ref xw, .ref xh, .ref xa, .ref xs, .ref xf, .int 0, .int 0, .long 0, .long 0, .int 5])), (xf, .inl (cI g, 6, .inl (upd (fun _ => 0) 5 1)))] H := hP
          have hD : va_D A [(xts, .inl (cI g, 6, .inl (fun _ => (-1)))), (xtp, .inl (cI g, 240, .inl (fun _ => 0))), (xt, .inr (8, [.int 4, .int 32, .ref xts, .ref xtp])), (x0, .inr (11, [.ref xr, .ref xt, .ref xg, .ref xb, .ref xp, .ref xu, .ref xm, .ref xd, .ref xw, .ref xh, .ref xa, .ref xs, .ref xf, .int 0, .int 0, .long 0, .long 0, .int 5])), (xf, .inl (cI g, 6, .inl (upd (fun _ => 0) 5 1)))] := hD
          exact rI X hK hP hD hS dX11_text_28 (by rfl) (Nat.le_of_ble_eq_true rfl) (Nat.le_of_ble_eq_true rfl) (by show _ = _; unfold sp_X11_text0; rw [if_neg c_3, if_neg c_5, if_pos c_8, if_neg c_9]; try rfl)
      ·
        refine lv_iconst (v := (-1)) hx hb dX11_text_17 (by decide) ?_
        exact rI X hK hP hD hS dX11_text_18 (by rfl) (Nat.le_of_ble_eq_true rfl) (Nat.le_of_ble_eq_true rfl) (by show _ = _; unfold sp_X11_text0; rw [if_neg c_3, if_neg c_5, if_neg c_8]; try rfl)
set_option maxRecDepth 100000 in
theorem eq_textb (g : GG) (x_x0 : Nat) (r : Int32) (n : Int32) (x_xr : Nat) (x_xt : Nat) (x_xg : Nat) (x_xb : Nat) (x_xp : Nat) (x_xu : Nat) (x_xm : Nat) (x_xd : Nat) (x_xw : Nat) (x_xh : Nat) (x_xa : Nat) (x_xs : Nat) (x_xf : Nat) (x_xts : Nat) (x_xtp : Nat) (y_m0 : Nat) (y_m0a1 : Nat) (y_m0a5 : Nat) (y_m0a6 : Nat) (y_m0a7 : Nat) (y_m0a8 : Nat) (y_m0a9 : Nat) (y_m0a11 : Nat) (y_m0a12 : Nat) (y_m0a13 : Nat) (y_m0a14 : Nat) (y_m0a15 : Nat) (y_m0a16 : Nat) (y_m0a18 : Nat) (y_m0a19 : Nat) (y_m0a20 : Nat) (y_m0a21 : Nat) (y_m0a22 : Nat) (y_m0a24 : Nat) (y_m0a25 : Nat) (y_m0a26 : Nat) (y_m0a28 : Nat) (y_m0a29 : Nat) (y_m0a30 : Nat) (y_m0a31 : Nat) (y_m0a33 : Nat) (y_m0a34 : Nat) (y_m0a35 : Nat) (y_m0a36 : Nat) (y_m0a37 : Nat) (y_m0a38 : Nat) (y_m0a39 : Nat) (y_m0a40 : Nat) (y_m0a41 : Nat) (y_m0a42 : Nat) (y_m0a43 : Nat) (y_m0a44 : Nat) (y_m0a45 : Nat) (y_m0a46 : Nat) (y_m0a47 : Nat) (y_m0a49 : Nat) (y_m0a50 : Nat) (y_m0a51 : Nat) (y_m0a53 : Nat) (y_m0a54 : Nat) (y_m0a55 : Nat) (y_m0a56 : Nat) (y_m0a57 : Nat) (y_m0a58 : Nat) (y_m0a59 : Nat) (y_m0a60 : Nat) (y_m0a61 : Nat) (y_m0a62 : Nat) (y_m0a63 : Nat) (y_m0a67 : Nat) (y_m0a68 : Nat) (y_m0a69 : Nat) (y_m0a70 : Nat) (y_m0a71 : Nat) (y_m0a72 : Nat) (y_m0a73 : Nat) (y_m0a74 : Nat) (y_m0a75 : Nat) : sp_X11_text0 g x_x0 r n x_xr x_xt x_xg x_xb x_xp x_xu x_xm x_xd x_xw x_xh x_xa x_xs x_xf x_xts x_xtp = sp_X12_text g y_m0 r n y_m0a1 y_m0a5 y_m0a6 y_m0a7 y_m0a8 y_m0a9 y_m0a11 y_m0a12 y_m0a13 y_m0a14 y_m0a15 y_m0a16 y_m0a18 y_m0a19 y_m0a20 y_m0a21 y_m0a22 y_m0a24 y_m0a25 y_m0a26 y_m0a28 y_m0a29 y_m0a30 y_m0a31 y_m0a33 y_m0a34 y_m0a35 y_m0a36 y_m0a37 y_m0a38 y_m0a39 y_m0a40 y_m0a41 y_m0a42 y_m0a43 y_m0a44 y_m0a45 y_m0a46 y_m0a47 y_m0a49 y_m0a50 y_m0a51 y_m0a53 y_m0a54 y_m0a55 y_m0a56 y_m0a57 y_m0a58 y_m0a59 y_m0a60 y_m0a61 y_m0a62 y_m0a63 y_m0a67 y_m0a68 y_m0a69 y_m0a70 y_m0a71 y_m0a72 y_m0a73 y_m0a74 y_m0a75 := by
  unfold sp_X11_text0 sp_X12_text
  repeat' split
  all_goals first | rfl | (exfalso; simp only [i32lt, i32le, i32eq, Int32.reduceToInt] at *; omega)
set_option maxHeartbeats 4000000 in
set_option maxRecDepth 100000 in
theorem law_4b (l : Launch) (g : GG) {p : Program} {e : Env} {s : State} {m : MethodId} {below : List Frame} {meth : Method} {c : Code} {b : Nat} {scr : Nat → Int32} (X : En p s m #[Value.ref b] meth c cL_law 4 ret R_law meth.name) (hK : va_K g.1 classes (tyG g) s) (hA : ∀ q, s.heap.size ≤ q → laA s q) (hZ : stS g (laA s) s s.heap) (hX : va_X b 6 scr s s.heap) (hbl : b < s.heap.size) (hbA : ¬ laA s b) (x0 : Nat) (xr : Nat) (xt : Nat) (xg : Nat) (xb : Nat) (xp : Nat) (xu : Nat) (xm : Nat) (xd : Nat) (xw : Nat) (xh : Nat) (xa : Nat) (xs : Nat) (xf : Nat) (xts : Nat) (xtp : Nat) (m0 : Nat) (m0a1 : Nat) (m0a5 : Nat) (m0a6 : Nat) (m0a7 : Nat) (m0a8 : Nat) (m0a9 : Nat) (m0a11 : Nat) (m0a12 : Nat) (m0a13 : Nat) (m0a14 : Nat) (m0a15 : Nat) (m0a16 : Nat) (m0a18 : Nat) (m0a19 : Nat) (m0a20 : Nat) (m0a21 : Nat) (m0a22 : Nat) (m0a24 : Nat) (m0a25 : Nat) (m0a26 : Nat) (m0a28 : Nat) (m0a29 : Nat) (m0a30 : Nat) (m0a31 : Nat) (m0a33 : Nat) (m0a34 : Nat) (m0a35 : Nat) (m0a36 : Nat) (m0a37 : Nat) (m0a38 : Nat) (m0a39 : Nat) (m0a40 : Nat) (m0a41 : Nat) (m0a42 : Nat) (m0a43 : Nat) (m0a44 : Nat) (m0a45 : Nat) (m0a46 : Nat) (m0a47 : Nat) (m0a49 : Nat) (m0a50 : Nat) (m0a51 : Nat) (m0a53 : Nat) (m0a54 : Nat) (m0a55 : Nat) (m0a56 : Nat) (m0a57 : Nat) (m0a58 : Nat) (m0a59 : Nat) (m0a60 : Nat) (m0a61 : Nat) (m0a62 : Nat) (m0a63 : Nat) (m0a67 : Nat) (m0a68 : Nat) (m0a69 : Nat) (m0a70 : Nat) (m0a71 : Nat) (m0a72 : Nat) (m0a73 : Nat) (m0a74 : Nat) (m0a75 : Nat) {H : Heap} {locs : List Loc} {ls : Array Slot} (hP : va_P g.1 classes [(x0, .inr (11, [.ref xr, .ref xt, .ref xg, .ref xb, .ref xp, .ref xu, .ref xm, .ref xd, .ref xw, .ref xh, .ref xa, .ref xs, .ref xf, .int 0, .int 0, .long 0, .long 0, .int 0])), (xt, .inr (8, [.int 4, .int 32, .ref xts, .ref xtp])), (xts, .inl (cI g, 6, .inl (fun _ => (-1)))), (xtp, .inl (cI g, 240, .inl (fun _ => 0))), (xf, .inl (cI g, 6, .inl (fun _ => 0))), (m0, .inr (12, [.int 0, .ref m0a1, .int 0, .long 0, .int 0, .ref m0a5, .ref m0a6, .ref m0a7, .ref m0a8, .ref m0a9, .int 0, .ref m0a11, .ref m0a12, .ref m0a13, .ref m0a14, .ref m0a15, .ref m0a16, .int 0, .ref m0a18, .ref m0a19, .ref m0a20, .ref m0a21, .ref m0a22, .int 0, .ref m0a24, .ref m0a25, .ref m0a26, .int 0, .ref m0a28, .ref m0a29, .ref m0a30, .ref m0a31, .int 0, .ref m0a33, .ref m0a34, .ref m0a35, .ref m0a36, .ref m0a37, .ref m0a38, .ref m0a39, .ref m0a40, .ref m0a41, .ref m0a42, .ref m0a43, .ref m0a44, .ref m0a45, .ref m0a46, .ref m0a47, .int 0, .ref m0a49, .ref m0a50, .ref m0a51, .int 0, .ref m0a53, .ref m0a54, .ref m0a55, .ref m0a56, .ref m0a57, .ref m0a58, .ref m0a59, .ref m0a60, .ref m0a61, .ref m0a62, .ref m0a63, .long 0, .int 0, .int (-9), .ref m0a67, .ref m0a68, .ref m0a69, .ref m0a70, .ref m0a71, .ref m0a72, .ref m0a73, .ref m0a74, .ref m0a75, .long 0])), (m0a1, .inl (cI g, 6, .inl (fun _ => 0))), (m0a8, .inl (cI g, 4, .inl (fun _ => (-9)))), (m0a9, .inl (cI g, 160, .inl (fun _ => 0)))] H) (hD : va_D (laA s) [(x0, .inr (11, [.ref xr, .ref xt, .ref xg, .ref xb, .ref xp, .ref xu, .ref xm, .ref xd, .ref xw, .ref xh, .ref xa, .ref xs, .ref xf, .int 0, .int 0, .long 0, .long 0, .int 0])), (xt, .inr (8, [.int 4, .int 32, .ref xts, .ref xtp])), (xts, .inl (cI g, 6, .inl (fun _ => (-1)))), (xtp, .inl (cI g, 240, .inl (fun _ => 0))), (xf, .inl (cI g, 6, .inl (fun _ => 0))), (m0, .inr (12, [.int 0, .ref m0a1, .int 0, .long 0, .int 0, .ref m0a5, .ref m0a6, .ref m0a7, .ref m0a8, .ref m0a9, .int 0, .ref m0a11, .ref m0a12, .ref m0a13, .ref m0a14, .ref m0a15, .ref m0a16, .int 0, .ref m0a18, .ref m0a19, .ref m0a20, .ref m0a21, .ref m0a22, .int 0, .ref m0a24, .ref m0a25, .ref m0a26, .int 0, .ref m0a28, .ref m0a29, .ref m0a30, .ref m0a31, .int 0, .ref m0a33, .ref m0a34, .ref m0a35, .ref m0a36, .ref m0a37, .ref m0a38, .ref m0a39, .ref m0a40, .ref m0a41, .ref m0a42, .ref m0a43, .ref m0a44, .ref m0a45, .ref m0a46, .ref m0a47, .int 0, .ref m0a49, .ref m0a50, .ref m0a51, .int 0, .ref m0a53, .ref m0a54, .ref m0a55, .ref m0a56, .ref m0a57, .ref m0a58, .ref m0a59, .ref m0a60, .ref m0a61, .ref m0a62, .ref m0a63, .long 0, .int 0, .int (-9), .ref m0a67, .ref m0a68, .ref m0a69, .ref m0a70, .ref m0a71, .ref m0a72, .ref m0a73, .ref m0a74, .ref m0a75, .long 0])), (m0a1, .inl (cI g, 6, .inl (fun _ => 0))), (m0a8, .inl (cI g, 4, .inl (fun _ => (-9)))), (m0a9, .inl (cI g, 160, .inl (fun _ => 0)))]) (hS : va_S (laA s) s.heap H locs) (hl : lv_has ls 4 [(3, .int 0), (2, .ref m0), (1, .ref x0), (0, .ref b)]) {Q : State → Prop} (kend : ∀ (H : Heap) (locs : List Loc) (ls : Array Slot), va_S (laA s) s.heap H locs → lv_has ls 4 [(0, .ref b), (3, .int 0)] → W p l e room_1 s m #[Value.ref b] below meth c H locs 141 11384 Q (F0 m 1955 ls [])) : W p l e room_1 s m #[Value.ref b] below meth c H locs 141 11384 Q (F0 m 426 ls []) := by
  have hx := X.1
  have hb := X.2.1
  have hml := X.2.2.1
  have hown := X.2.2.2.1
  have hts := X.2.2.2.2.1
  refine lv_aload_n hx hb dL_law_426 rfl (lv_at hl 2 rfl) ?_
  refine lv_aload_n hx hb dL_law_427 rfl (lv_at hl 3 rfl) ?_
  refine lv_iload_n hx hb dL_law_428 rfl (lv_at hl 0 rfl) ?_
  refine lv_iconst (v := 1) hx hb dL_law_429 (by decide) ?_
  refine lv_iadd hx hb dL_law_430 ?_
  refine lv_topk (v := 1) (by decide) ?_
  refine va_sld hx hb hX hbl hbA hS (by unfold vp_in; decide) dL_law_431 ?_
  refine lv_topk (v := scr 1) rfl ?_
  refine lv_aload_n hx hb dL_law_432 rfl (lv_at hl 3 rfl) ?_
  refine lv_iload_n hx hb dL_law_433 rfl (lv_at hl 0 rfl) ?_
  refine lv_iconst (v := 2) hx hb dL_law_434 (by decide) ?_
  refine lv_iadd hx hb dL_law_435 ?_
  refine lv_topk (v := 2) (by decide) ?_
  refine va_sld hx hb hX hbl hbA hS (by unfold vp_in; decide) dL_law_436 ?_
  refine lv_topk (v := scr 2) rfl ?_
  refine kVi (As := [.int (scr 1), .int (scr 2)]) (rest := []) (wr := [(m0, .inr (12, [.int 0, .ref m0a1, .int 0, .long 0, .int 0, .ref m0a5, .ref m0a6, .ref m0a7, .ref m0a8, .ref m0a9, .int 0, .ref m0a11, .ref m0a12, .ref m0a13, .ref m0a14, .ref m0a15, .ref m0a16, .int 0, .ref m0a18, .ref m0a19, .ref m0a20, .ref m0a21, .ref m0a22, .int 0, .ref m0a24, .ref m0a25, .ref m0a26, .int 0, .ref m0a28, .ref m0a29, .ref m0a30, .ref m0a31, .int 0, .ref m0a33, .ref m0a34, .ref m0a35, .ref m0a36, .ref m0a37, .ref m0a38, .ref m0a39, .ref m0a40, .ref m0a41, .ref m0a42, .ref m0a43, .ref m0a44, .ref m0a45, .ref m0a46, .ref m0a47, .int 0, .ref m0a49, .ref m0a50, .ref m0a51, .int 0, .ref m0a53, .ref m0a54, .ref m0a55, .ref m0a56, .ref m0a57, .ref m0a58, .ref m0a59, .ref m0a60, .ref m0a61, .ref m0a62, .ref m0a63, .long 0, .int 0, .int (-9), .ref m0a67, .ref m0a68, .ref m0a69, .ref m0a70, .ref m0a71, .ref m0a72, .ref m0a73, .ref m0a74, .ref m0a75, .long 0])), (m0a1, .inl (cI g, 6, .inl (fun _ => 0))), (m0a8, .inl (cI g, 4, .inl (fun _ => (-9)))), (m0a9, .inl (cI g, 160, .inl (fun _ => 0)))]) X (c_X11_text0 l g x0 (scr 1) (scr 2) xr xt xg xb xp xu xm xd xw xh xa xs xf xts xtp) ok_X11_text okv_X11_text q_578 rfl hK hP hD hS hA hZ hl.1 [0, 1, 2, 3, 4] [5, 6, 7, 8] rfl rfl rfl rfl rfl 0 11 rfl rfl rfl (Nat.le_of_ble_eq_true rfl) ⟨Nat.le_of_ble_eq_true rfl, Nat.le_of_ble_eq_true rfl⟩ dL_law_437 ⟨Nat.le_of_ble_eq_true rfl, Nat.le_of_ble_eq_true rfl⟩ (fun r_1 w1 H locs hw_2 hP hD hS => ?_)
  have hP := pSub hP (ws' := [(m0, .inr (12, [.int 0, .ref m0a1, .int 0, .long 0, .int 0, .ref m0a5, .ref m0a6, .ref m0a7, .ref m0a8, .ref m0a9, .int 0, .ref m0a11, .ref m0a12, .ref m0a13, .ref m0a14, .ref m0a15, .ref m0a16, .int 0, .ref m0a18, .ref m0a19, .ref m0a20, .ref m0a21, .ref m0a22, .int 0, .ref m0a24, .ref m0a25, .ref m0a26, .int 0, .ref m0a28, .ref m0a29, .ref m0a30, .ref m0a31, .int 0, .ref m0a33, .ref m0a34, .ref m0a35, .ref m0a36, .ref m0a37, .ref m0a38, .ref m0a39, .ref m0a40, .ref m0a41, .ref m0a42, .ref m0a43, .ref m0a44, .ref m0a45, .ref m0a46, .ref m0a47, .int 0, .ref m0a49, .ref m0a50, .ref m0a51, .int 0, .ref m0a53, .ref m0a54, .ref m0a55, .ref m0a56, .ref m0a57, .ref m0a58, .ref m0a59, .ref m0a60, .ref m0a61, .ref m0a62, .ref m0a63, .long 0, .int 0, .int (-9), .ref m0a67, .ref m0a68, .ref m0a69, .ref m0a70, .ref m0a71, .ref m0a72, .ref m0a73, .ref m0a74, .ref m0a75, .long 0])), (m0a1, .inl (cI g, 6, .inl (fun _ => 0))), (m0a8, .inl (cI g, 4, .inl (fun _ => (-9)))), (m0a9, .inl (cI g, 160, .inl (fun _ => 0)))]) [0, 1, 2, 3] rfl
  have hD := hD.sub (ws' := [(m0, .inr (12, [.int 0, .ref m0a1, .int 0, .long 0, .int 0, .ref m0a5, .ref m0a6, .ref m0a7, .ref m0a8, .ref m0a9, .int 0, .ref m0a11, .ref m0a12, .ref m0a13, .ref m0a14, .ref m0a15, .ref m0a16, .int 0, .ref m0a18, .ref m0a19, .ref m0a20, .ref m0a21, .ref m0a22, .int 0, .ref m0a24, .ref m0a25, .ref m0a26, .int 0, .ref m0a28, .ref m0a29, .ref m0a30, .ref m0a31, .int 0, .ref m0a33, .ref m0a34, .ref m0a35, .ref m0a36, .ref m0a37, .ref m0a38, .ref m0a39, .ref m0a40, .ref m0a41, .ref m0a42, .ref m0a43, .ref m0a44, .ref m0a45, .ref m0a46, .ref m0a47, .int 0, .ref m0a49, .ref m0a50, .ref m0a51, .int 0, .ref m0a53, .ref m0a54, .ref m0a55, .ref m0a56, .ref m0a57, .ref m0a58, .ref m0a59, .ref m0a60, .ref m0a61, .ref m0a62, .ref m0a63, .long 0, .int 0, .int (-9), .ref m0a67, .ref m0a68, .ref m0a69, .ref m0a70, .ref m0a71, .ref m0a72, .ref m0a73, .ref m0a74, .ref m0a75, .long 0])), (m0a1, .inl (cI g, 6, .inl (fun _ => 0))), (m0a8, .inl (cI g, 4, .inl (fun _ => (-9)))), (m0a9, .inl (cI g, 160, .inl (fun _ => 0)))]) [0, 1, 2, 3] rfl rfl
  refine lv_aload_n hx hb dL_law_440 rfl (lv_at hl 1 rfl) ?_
  refine lv_aload_n hx hb dL_law_441 rfl (lv_at hl 3 rfl) ?_
  refine lv_iload_n hx hb dL_law_442 rfl (lv_at hl 0 rfl) ?_
  refine lv_iconst (v := 1) hx hb dL_law_443 (by decide) ?_
  refine lv_iadd hx hb dL_law_444 ?_
  refine lv_topk (v := 1) (by decide) ?_
  refine va_sld hx hb hX hbl hbA hS (by unfold vp_in; decide) dL_law_445 ?_
  refine lv_topk (v := scr 1) rfl ?_
  refine lv_aload_n hx hb dL_law_446 rfl (lv_at hl 3 rfl) ?_
  refine lv_iload_n hx hb dL_law_447 rfl (lv_at hl 0 rfl) ?_
  refine lv_iconst (v := 2) hx hb dL_law_448 (by decide) ?_
  refine lv_iadd hx hb dL_law_449 ?_
  refine lv_topk (v := 2) (by decide) ?_
  refine va_sld hx hb hX hbl hbA hS (by unfold vp_in; decide) dL_law_450 ?_
  refine lv_topk (v := scr 2) rfl ?_
  refine kVi (As := [.int (scr 1), .int (scr 2)]) (rest := [.int r_1]) (wr := []) X (c_X12_text l g m0 (scr 1) (scr 2) m0a1 m0a5 m0a6 m0a7 m0a8 m0a9 m0a11 m0a12 m0a13 m0a14 m0a15 m0a16 m0a18 m0a19 m0a20 m0a21 m0a22 m0a24 m0a25 m0a26 m0a28 m0a29 m0a30 m0a31 m0a33 m0a34 m0a35 m0a36 m0a37 m0a38 m0a39 m0a40 m0a41 m0a42 m0a43 m0a44 m0a45 m0a46 m0a47 m0a49 m0a50 m0a51 m0a53 m0a54 m0a55 m0a56 m0a57 m0a58 m0a59 m0a60 m0a61 m0a62 m0a63 m0a67 m0a68 m0a69 m0a70 m0a71 m0a72 m0a73 m0a74 m0a75) ok_X12_text okv_X12_text q_1728 rfl hK hP hD hS hA hZ hl.1 [0, 1, 2, 3] [] rfl rfl rfl rfl rfl 0 12 rfl rfl rfl (Nat.le_of_ble_eq_true rfl) ⟨Nat.le_of_ble_eq_true rfl, Nat.le_of_ble_eq_true rfl⟩ dL_law_451 ⟨Nat.le_of_ble_eq_true rfl, Nat.le_of_ble_eq_true rfl⟩ (fun r_3 w1 H locs hw_4 hP hD hS => ?_)
  have hP := pSub hP (ws' := []) [] rfl
  have hD := hD.sub (ws' := []) [] rfl rfl
  refine lv_icmp_eq (tgt := 1955) hx hb dL_law_454 (by decide) (fun _ => ?_) (fun c => absurd (hw_2.trans ((eq_textb g x0 (scr 1) (scr 2) xr xt xg xb xp xu xm xd xw xh xa xs xf xts xtp m0 m0a1 m0a5 m0a6 m0a7 m0a8 m0a9 m0a11 m0a12 m0a13 m0a14 m0a15 m0a16 m0a18 m0a19 m0a20 m0a21 m0a22 m0a24 m0a25 m0a26 m0a28 m0a29 m0a30 m0a31 m0a33 m0a34 m0a35 m0a36 m0a37 m0a38 m0a39 m0a40 m0a41 m0a42 m0a43 m0a44 m0a45 m0a46 m0a47 m0a49 m0a50 m0a51 m0a53 m0a54 m0a55 m0a56 m0a57 m0a58 m0a59 m0a60 m0a61 m0a62 m0a63 m0a67 m0a68 m0a69 m0a70 m0a71 m0a72 m0a73 m0a74 m0a75).trans hw_4.symm)) c)
  exact kend _ _ _ hS (lv_sub hl [3, 0] rfl)
