set_option maxRecDepth 200000 in
theorem q_516 : Cond.code yX11_row cX11_row 3 (some .int) ∈ tb := tb_mem 516 (by rfl) rfl
set_option maxRecDepth 200000 in
theorem q_514 : Cond.instanceMethod yX11_row ∈ tb := tb_mem 514 (by decide +kernel) rfl
set_option maxRecDepth 200000 in
theorem q_515 : Cond.selects "CityRoad" yX11_row yX11_row ∈ tb := tb_mem 515 (by decide +kernel) rfl
set_option maxRecDepth 200000 in
theorem q_513 : Cond.methodLink "CityRoadLaw" 13 yX11_row ∈ tb := tb_mem 513 (by decide +kernel) rfl
set_option maxRecDepth 200000 in
theorem q_1701 : Cond.code yX12_row cX12_row 4 (some .int) ∈ tb := tb_mem 1701 (by rfl) rfl
set_option maxRecDepth 200000 in
theorem q_1699 : Cond.instanceMethod yX12_row ∈ tb := tb_mem 1699 (by decide +kernel) rfl
set_option maxRecDepth 200000 in
theorem q_1700 : Cond.selects "CityRoadModel" yX12_row yX12_row ∈ tb := tb_mem 1700 (by decide +kernel) rfl
set_option maxRecDepth 200000 in
theorem q_1698 : Cond.methodLink "CityRoadLaw" 17 yX12_row ∈ tb := tb_mem 1698 (by decide +kernel) rfl
set_option maxRecDepth 200000 in
theorem q_538 : Cond.code yX11_lay cX11_lay 4 (some .int) ∈ tb := tb_mem 538 (by rfl) rfl
set_option maxRecDepth 200000 in
theorem q_536 : Cond.instanceMethod yX11_lay ∈ tb := tb_mem 536 (by decide +kernel) rfl
set_option maxRecDepth 200000 in
theorem q_537 : Cond.selects "CityRoad" yX11_lay yX11_lay ∈ tb := tb_mem 537 (by decide +kernel) rfl
set_option maxRecDepth 200000 in
theorem q_535 : Cond.methodLink "CityRoadLaw" 18 yX11_lay ∈ tb := tb_mem 535 (by decide +kernel) rfl
set_option maxRecDepth 200000 in
theorem q_1715 : Cond.code yX12_lay cX12_lay 5 (some .int) ∈ tb := tb_mem 1715 (by rfl) rfl
set_option maxRecDepth 200000 in
theorem q_1713 : Cond.instanceMethod yX12_lay ∈ tb := tb_mem 1713 (by decide +kernel) rfl
set_option maxRecDepth 200000 in
theorem q_1714 : Cond.selects "CityRoadModel" yX12_lay yX12_lay ∈ tb := tb_mem 1714 (by decide +kernel) rfl
set_option maxRecDepth 200000 in
theorem q_1712 : Cond.methodLink "CityRoadLaw" 22 yX12_lay ∈ tb := tb_mem 1712 (by decide +kernel) rfl
set_option maxRecDepth 200000 in
theorem q_702 : Cond.code yX11_person cX11_person 6 (some .int) ∈ tb := tb_mem 702 (by rfl) rfl
set_option maxRecDepth 200000 in
theorem q_700 : Cond.instanceMethod yX11_person ∈ tb := tb_mem 700 (by decide +kernel) rfl
set_option maxRecDepth 200000 in
theorem q_701 : Cond.selects "CityRoad" yX11_person yX11_person ∈ tb := tb_mem 701 (by decide +kernel) rfl
set_option maxRecDepth 200000 in
theorem q_699 : Cond.methodLink "CityRoadLaw" 70 yX11_person ∈ tb := tb_mem 699 (by decide +kernel) rfl
set_option maxRecDepth 200000 in
theorem q_1842 : Cond.code yX12_person cX12_person 5 (some .int) ∈ tb := tb_mem 1842 (by rfl) rfl
set_option maxRecDepth 200000 in
theorem q_1840 : Cond.instanceMethod yX12_person ∈ tb := tb_mem 1840 (by decide +kernel) rfl
set_option maxRecDepth 200000 in
theorem q_1841 : Cond.selects "CityRoadModel" yX12_person yX12_person ∈ tb := tb_mem 1841 (by decide +kernel) rfl
set_option maxRecDepth 200000 in
theorem q_1839 : Cond.methodLink "CityRoadLaw" 74 yX12_person ∈ tb := tb_mem 1839 (by decide +kernel) rfl
set_option maxRecDepth 200000 in
theorem q_1421 : Cond.code yX11_digest cX11_digest 4 (some .long) ∈ tb := tb_mem 1421 (by rfl) rfl
set_option maxRecDepth 200000 in
theorem q_1419 : Cond.instanceMethod yX11_digest ∈ tb := tb_mem 1419 (by decide +kernel) rfl
set_option maxRecDepth 200000 in
theorem q_1420 : Cond.selects "CityRoad" yX11_digest yX11_digest ∈ tb := tb_mem 1420 (by decide +kernel) rfl
set_option maxRecDepth 200000 in
theorem q_1418 : Cond.methodLink "CityRoadLaw" 233 yX11_digest ∈ tb := tb_mem 1418 (by decide +kernel) rfl
set_option maxRecDepth 200000 in
theorem q_2149 : Cond.code yX12_digest cX12_digest 3 (some .long) ∈ tb := tb_mem 2149 (by rfl) rfl
set_option maxRecDepth 200000 in
theorem q_2147 : Cond.instanceMethod yX12_digest ∈ tb := tb_mem 2147 (by decide +kernel) rfl
set_option maxRecDepth 200000 in
theorem q_2148 : Cond.selects "CityRoadModel" yX12_digest yX12_digest ∈ tb := tb_mem 2148 (by decide +kernel) rfl
set_option maxRecDepth 200000 in
theorem q_2146 : Cond.methodLink "CityRoadLaw" 236 yX12_digest ∈ tb := tb_mem 2146 (by decide +kernel) rfl
theorem dL_law_264 : decode cL_law 264 = .ok (.aload_n 1, 1) := by decide +kernel
theorem dL_law_265 : decode cL_law 265 = .ok (.aload_n 0, 1) := by decide +kernel
theorem dL_law_266 : decode cL_law 266 = .ok (.iload_n 3, 1) := by decide +kernel
theorem dL_law_267 : decode cL_law 267 = .ok (.iconst 1, 1) := by decide +kernel
theorem dL_law_268 : decode cL_law 268 = .ok (.iadd, 1) := by decide +kernel
theorem dL_law_269 : decode cL_law 269 = .ok (.iaload, 1) := by decide +kernel
theorem dL_law_270 : decode cL_law 270 = .ok (.aload_n 0, 1) := by decide +kernel
theorem dL_law_271 : decode cL_law 271 = .ok (.iload_n 3, 1) := by decide +kernel
theorem dL_law_272 : decode cL_law 272 = .ok (.iconst 2, 1) := by decide +kernel
theorem dL_law_273 : decode cL_law 273 = .ok (.iadd, 1) := by decide +kernel
theorem dL_law_274 : decode cL_law 274 = .ok (.iaload, 1) := by decide +kernel
theorem dL_law_275 : decode cL_law 275 = .ok (.invokevirtual 13, 3) := by decide +kernel
theorem dL_law_278 : decode cL_law 278 = .ok (.aload_n 2, 1) := by decide +kernel
theorem dL_law_279 : decode cL_law 279 = .ok (.aload_n 0, 1) := by decide +kernel
theorem dL_law_280 : decode cL_law 280 = .ok (.iload_n 3, 1) := by decide +kernel
theorem dL_law_281 : decode cL_law 281 = .ok (.iconst 1, 1) := by decide +kernel
theorem dL_law_282 : decode cL_law 282 = .ok (.iadd, 1) := by decide +kernel
theorem dL_law_283 : decode cL_law 283 = .ok (.iaload, 1) := by decide +kernel
theorem dL_law_284 : decode cL_law 284 = .ok (.aload_n 0, 1) := by decide +kernel
theorem dL_law_285 : decode cL_law 285 = .ok (.iload_n 3, 1) := by decide +kernel
theorem dL_law_286 : decode cL_law 286 = .ok (.iconst 2, 1) := by decide +kernel
theorem dL_law_287 : decode cL_law 287 = .ok (.iadd, 1) := by decide +kernel
theorem dL_law_288 : decode cL_law 288 = .ok (.iaload, 1) := by decide +kernel
theorem dL_law_289 : decode cL_law 289 = .ok (.invokevirtual 17, 3) := by decide +kernel
theorem dL_law_292 : decode cL_law 292 = .ok (.if_icmp .eq 1663, 3) := by decide +kernel
theorem dL_law_297 : decode cL_law 297 = .ok (.aload_n 1, 1) := by decide +kernel
theorem dL_law_298 : decode cL_law 298 = .ok (.aload_n 0, 1) := by decide +kernel
theorem dL_law_299 : decode cL_law 299 = .ok (.iload_n 3, 1) := by decide +kernel
theorem dL_law_300 : decode cL_law 300 = .ok (.iconst 1, 1) := by decide +kernel
theorem dL_law_301 : decode cL_law 301 = .ok (.iadd, 1) := by decide +kernel
theorem dL_law_302 : decode cL_law 302 = .ok (.iaload, 1) := by decide +kernel
theorem dL_law_303 : decode cL_law 303 = .ok (.aload_n 0, 1) := by decide +kernel
theorem dL_law_304 : decode cL_law 304 = .ok (.iload_n 3, 1) := by decide +kernel
theorem dL_law_305 : decode cL_law 305 = .ok (.iconst 2, 1) := by decide +kernel
theorem dL_law_306 : decode cL_law 306 = .ok (.iadd, 1) := by decide +kernel
theorem dL_law_307 : decode cL_law 307 = .ok (.iaload, 1) := by decide +kernel
theorem dL_law_308 : decode cL_law 308 = .ok (.aload_n 0, 1) := by decide +kernel
theorem dL_law_309 : decode cL_law 309 = .ok (.iload_n 3, 1) := by decide +kernel
theorem dL_law_310 : decode cL_law 310 = .ok (.iconst 3, 1) := by decide +kernel
theorem dL_law_311 : decode cL_law 311 = .ok (.iadd, 1) := by decide +kernel
theorem dL_law_312 : decode cL_law 312 = .ok (.iaload, 1) := by decide +kernel
theorem dL_law_313 : decode cL_law 313 = .ok (.invokevirtual 18, 3) := by decide +kernel
theorem dL_law_316 : decode cL_law 316 = .ok (.aload_n 2, 1) := by decide +kernel
theorem dL_law_317 : decode cL_law 317 = .ok (.aload_n 0, 1) := by decide +kernel
theorem dL_law_318 : decode cL_law 318 = .ok (.iload_n 3, 1) := by decide +kernel
theorem dL_law_319 : decode cL_law 319 = .ok (.iconst 1, 1) := by decide +kernel
theorem dL_law_320 : decode cL_law 320 = .ok (.iadd, 1) := by decide +kernel
theorem dL_law_321 : decode cL_law 321 = .ok (.iaload, 1) := by decide +kernel
theorem dL_law_322 : decode cL_law 322 = .ok (.aload_n 0, 1) := by decide +kernel
theorem dL_law_323 : decode cL_law 323 = .ok (.iload_n 3, 1) := by decide +kernel
theorem dL_law_324 : decode cL_law 324 = .ok (.iconst 2, 1) := by decide +kernel
theorem dL_law_325 : decode cL_law 325 = .ok (.iadd, 1) := by decide +kernel
theorem dL_law_326 : decode cL_law 326 = .ok (.iaload, 1) := by decide +kernel
theorem dL_law_327 : decode cL_law 327 = .ok (.aload_n 0, 1) := by decide +kernel
theorem dL_law_328 : decode cL_law 328 = .ok (.iload_n 3, 1) := by decide +kernel
theorem dL_law_329 : decode cL_law 329 = .ok (.iconst 3, 1) := by decide +kernel
theorem dL_law_330 : decode cL_law 330 = .ok (.iadd, 1) := by decide +kernel
theorem dL_law_331 : decode cL_law 331 = .ok (.iaload, 1) := by decide +kernel
theorem dL_law_332 : decode cL_law 332 = .ok (.invokevirtual 22, 3) := by decide +kernel
theorem dL_law_335 : decode cL_law 335 = .ok (.if_icmp .eq 1620, 3) := by decide +kernel
theorem dL_law_743 : decode cL_law 743 = .ok (.aload_n 1, 1) := by decide +kernel
theorem dL_law_744 : decode cL_law 744 = .ok (.aload_n 0, 1) := by decide +kernel
theorem dL_law_745 : decode cL_law 745 = .ok (.iload_n 3, 1) := by decide +kernel
theorem dL_law_746 : decode cL_law 746 = .ok (.iconst 1, 1) := by decide +kernel
theorem dL_law_747 : decode cL_law 747 = .ok (.iadd, 1) := by decide +kernel
theorem dL_law_748 : decode cL_law 748 = .ok (.iaload, 1) := by decide +kernel
theorem dL_law_749 : decode cL_law 749 = .ok (.aload_n 0, 1) := by decide +kernel
theorem dL_law_750 : decode cL_law 750 = .ok (.iload_n 3, 1) := by decide +kernel
theorem dL_law_751 : decode cL_law 751 = .ok (.iconst 2, 1) := by decide +kernel
theorem dL_law_752 : decode cL_law 752 = .ok (.iadd, 1) := by decide +kernel
theorem dL_law_753 : decode cL_law 753 = .ok (.iaload, 1) := by decide +kernel
theorem dL_law_754 : decode cL_law 754 = .ok (.aload_n 0, 1) := by decide +kernel
theorem dL_law_755 : decode cL_law 755 = .ok (.iload_n 3, 1) := by decide +kernel
theorem dL_law_756 : decode cL_law 756 = .ok (.iconst 3, 1) := by decide +kernel
theorem dL_law_757 : decode cL_law 757 = .ok (.iadd, 1) := by decide +kernel
theorem dL_law_758 : decode cL_law 758 = .ok (.iaload, 1) := by decide +kernel
theorem dL_law_759 : decode cL_law 759 = .ok (.ifCond .eq 7, 3) := by decide +kernel
theorem dL_law_766 : decode cL_law 766 = .ok (.iconst 0, 1) := by decide +kernel
theorem dL_law_767 : decode cL_law 767 = .ok (.aload_n 0, 1) := by decide +kernel
theorem dL_law_768 : decode cL_law 768 = .ok (.iload_n 3, 1) := by decide +kernel
theorem dL_law_769 : decode cL_law 769 = .ok (.iconst 4, 1) := by decide +kernel
theorem dL_law_770 : decode cL_law 770 = .ok (.iadd, 1) := by decide +kernel
theorem dL_law_771 : decode cL_law 771 = .ok (.iaload, 1) := by decide +kernel
theorem dL_law_772 : decode cL_law 772 = .ok (.invokevirtual 70, 3) := by decide +kernel
theorem dL_law_775 : decode cL_law 775 = .ok (.aload_n 2, 1) := by decide +kernel
theorem dL_law_776 : decode cL_law 776 = .ok (.aload_n 0, 1) := by decide +kernel
theorem dL_law_777 : decode cL_law 777 = .ok (.iload_n 3, 1) := by decide +kernel
theorem dL_law_778 : decode cL_law 778 = .ok (.iconst 1, 1) := by decide +kernel
theorem dL_law_779 : decode cL_law 779 = .ok (.iadd, 1) := by decide +kernel
theorem dL_law_780 : decode cL_law 780 = .ok (.iaload, 1) := by decide +kernel
theorem dL_law_781 : decode cL_law 781 = .ok (.aload_n 0, 1) := by decide +kernel
theorem dL_law_782 : decode cL_law 782 = .ok (.iload_n 3, 1) := by decide +kernel
theorem dL_law_783 : decode cL_law 783 = .ok (.iconst 2, 1) := by decide +kernel
theorem dL_law_784 : decode cL_law 784 = .ok (.iadd, 1) := by decide +kernel
theorem dL_law_785 : decode cL_law 785 = .ok (.iaload, 1) := by decide +kernel
theorem dL_law_786 : decode cL_law 786 = .ok (.aload_n 0, 1) := by decide +kernel
theorem dL_law_787 : decode cL_law 787 = .ok (.iload_n 3, 1) := by decide +kernel
theorem dL_law_788 : decode cL_law 788 = .ok (.iconst 3, 1) := by decide +kernel
theorem dL_law_789 : decode cL_law 789 = .ok (.iadd, 1) := by decide +kernel
theorem dL_law_790 : decode cL_law 790 = .ok (.iaload, 1) := by decide +kernel
theorem dL_law_791 : decode cL_law 791 = .ok (.ifCond .eq 7, 3) := by decide +kernel
theorem dL_law_798 : decode cL_law 798 = .ok (.iconst 0, 1) := by decide +kernel
theorem dL_law_799 : decode cL_law 799 = .ok (.aload_n 0, 1) := by decide +kernel
theorem dL_law_800 : decode cL_law 800 = .ok (.iload_n 3, 1) := by decide +kernel
theorem dL_law_801 : decode cL_law 801 = .ok (.iconst 4, 1) := by decide +kernel
theorem dL_law_802 : decode cL_law 802 = .ok (.iadd, 1) := by decide +kernel
theorem dL_law_803 : decode cL_law 803 = .ok (.iaload, 1) := by decide +kernel
theorem dL_law_804 : decode cL_law 804 = .ok (.invokevirtual 74, 3) := by decide +kernel
theorem dL_law_807 : decode cL_law 807 = .ok (.if_icmp .eq 1148, 3) := by decide +kernel
theorem dL_law_762 : decode cL_law 762 = .ok (.iconst 1, 1) := by decide +kernel
theorem dL_law_763 : decode cL_law 763 = .ok (.goto 4, 3) := by decide +kernel
theorem dL_law_794 : decode cL_law 794 = .ok (.iconst 1, 1) := by decide +kernel
theorem dL_law_795 : decode cL_law 795 = .ok (.goto 4, 3) := by decide +kernel
theorem dL_law_1941 : decode cL_law 1941 = .ok (.aload_n 1, 1) := by decide +kernel
theorem dL_law_1942 : decode cL_law 1942 = .ok (.invokevirtual 233, 3) := by decide +kernel
theorem dL_law_1945 : decode cL_law 1945 = .ok (.aload_n 2, 1) := by decide +kernel
theorem dL_law_1946 : decode cL_law 1946 = .ok (.invokevirtual 236, 3) := by decide +kernel
theorem dL_law_1949 : decode cL_law 1949 = .ok (.lcmp, 1) := by decide +kernel
theorem dL_law_1950 : decode cL_law 1950 = .ok (.ifCond .eq 5, 3) := by decide +kernel
theorem ok_X11_row : okM yX11_row cX11_row 3 (some .int) 2 := ⟨q_516, q_89, by decide +kernel, by decide +kernel, by decide +kernel⟩
theorem okv_X11_row : okV yX11_row := ⟨q_514, q_515⟩
theorem ok_X12_row : okM yX12_row cX12_row 4 (some .int) 2 := ⟨q_1701, q_103, by decide +kernel, by decide +kernel, by decide +kernel⟩
theorem okv_X12_row : okV yX12_row := ⟨q_1699, q_1700⟩
theorem ok_X11_lay : okM yX11_lay cX11_lay 4 (some .int) 3 := ⟨q_538, q_89, by decide +kernel, by decide +kernel, by decide +kernel⟩
theorem okv_X11_lay : okV yX11_lay := ⟨q_536, q_537⟩
theorem ok_X12_lay : okM yX12_lay cX12_lay 5 (some .int) 3 := ⟨q_1715, q_103, by decide +kernel, by decide +kernel, by decide +kernel⟩
theorem okv_X12_lay : okV yX12_lay := ⟨q_1713, q_1714⟩
theorem ok_X11_person : okM yX11_person cX11_person 6 (some .int) 4 := ⟨q_702, q_89, by decide +kernel, by decide +kernel, by decide +kernel⟩
theorem okv_X11_person : okV yX11_person := ⟨q_700, q_701⟩
theorem ok_X12_person : okM yX12_person cX12_person 5 (some .int) 4 := ⟨q_1842, q_103, by decide +kernel, by decide +kernel, by decide +kernel⟩
theorem okv_X12_person : okV yX12_person := ⟨q_1840, q_1841⟩
theorem ok_X11_digest : okM yX11_digest cX11_digest 4 (some .long) 0 := ⟨q_1421, q_89, by decide +kernel, by decide +kernel, by decide +kernel⟩
theorem okv_X11_digest : okV yX11_digest := ⟨q_1419, q_1420⟩
theorem ok_X12_digest : okM yX12_digest cX12_digest 3 (some .long) 0 := ⟨q_2149, q_103, by decide +kernel, by decide +kernel, by decide +kernel⟩
theorem okv_X12_digest : okV yX12_digest := ⟨q_2147, q_2148⟩
set_option maxRecDepth 100000 in
theorem eq_row (g : GG) (x_x0 : Nat) (r : Int32) (n : Int32) (x_xr : Nat) (x_xt : Nat) (x_xg : Nat) (x_xb : Nat) (x_xp : Nat) (x_xu : Nat) (x_xm : Nat) (x_xd : Nat) (x_xw : Nat) (x_xh : Nat) (x_xa : Nat) (x_xs : Nat) (x_xf : Nat) (x_xrs : Nat) (x_xrp : Nat) (y_m0 : Nat) (y_m0a1 : Nat) (y_m0a5 : Nat) (y_m0a6 : Nat) (y_m0a7 : Nat) (y_m0a8 : Nat) (y_m0a9 : Nat) (y_m0a11 : Nat) (y_m0a12 : Nat) (y_m0a13 : Nat) (y_m0a14 : Nat) (y_m0a15 : Nat) (y_m0a16 : Nat) (y_m0a18 : Nat) (y_m0a19 : Nat) (y_m0a20 : Nat) (y_m0a21 : Nat) (y_m0a22 : Nat) (y_m0a24 : Nat) (y_m0a25 : Nat) (y_m0a26 : Nat) (y_m0a28 : Nat) (y_m0a29 : Nat) (y_m0a30 : Nat) (y_m0a31 : Nat) (y_m0a33 : Nat) (y_m0a34 : Nat) (y_m0a35 : Nat) (y_m0a36 : Nat) (y_m0a37 : Nat) (y_m0a38 : Nat) (y_m0a39 : Nat) (y_m0a40 : Nat) (y_m0a41 : Nat) (y_m0a42 : Nat) (y_m0a43 : Nat) (y_m0a44 : Nat) (y_m0a45 : Nat) (y_m0a46 : Nat) (y_m0a47 : Nat) (y_m0a49 : Nat) (y_m0a50 : Nat) (y_m0a51 : Nat) (y_m0a53 : Nat) (y_m0a54 : Nat) (y_m0a55 : Nat) (y_m0a56 : Nat) (y_m0a57 : Nat) (y_m0a58 : Nat) (y_m0a59 : Nat) (y_m0a60 : Nat) (y_m0a61 : Nat) (y_m0a62 : Nat) (y_m0a63 : Nat) (y_m0a67 : Nat) (y_m0a68 : Nat) (y_m0a69 : Nat) (y_m0a70 : Nat) (y_m0a71 : Nat) (y_m0a72 : Nat) (y_m0a73 : Nat) (y_m0a74 : Nat) (y_m0a75 : Nat) : sp_X11_row g x_x0 r n x_xr x_xt x_xg x_xb x_xp x_xu x_xm x_xd x_xw x_xh x_xa x_xs x_xf x_xrs x_xrp = sp_X12_row g y_m0 r n y_m0a1 y_m0a5 y_m0a6 y_m0a7 y_m0a8 y_m0a9 y_m0a11 y_m0a12 y_m0a13 y_m0a14 y_m0a15 y_m0a16 y_m0a18 y_m0a19 y_m0a20 y_m0a21 y_m0a22 y_m0a24 y_m0a25 y_m0a26 y_m0a28 y_m0a29 y_m0a30 y_m0a31 y_m0a33 y_m0a34 y_m0a35 y_m0a36 y_m0a37 y_m0a38 y_m0a39 y_m0a40 y_m0a41 y_m0a42 y_m0a43 y_m0a44 y_m0a45 y_m0a46 y_m0a47 y_m0a49 y_m0a50 y_m0a51 y_m0a53 y_m0a54 y_m0a55 y_m0a56 y_m0a57 y_m0a58 y_m0a59 y_m0a60 y_m0a61 y_m0a62 y_m0a63 y_m0a67 y_m0a68 y_m0a69 y_m0a70 y_m0a71 y_m0a72 y_m0a73 y_m0a74 y_m0a75 := by
  unfold sp_X11_row sp_X12_row
  repeat' split
  all_goals first | rfl | (exfalso; simp only [i32lt, i32le, i32eq, Int32.reduceToInt] at *; omega)
set_option maxRecDepth 100000 in
theorem eq_lay (g : GG) (x_x0 : Nat) (r : Int32) (i : Int32) (v : Int32) (x_xr : Nat) (x_xt : Nat) (x_xg : Nat) (x_xb : Nat) (x_xp : Nat) (x_xu : Nat) (x_xm : Nat) (x_xd : Nat) (x_xw : Nat) (x_xh : Nat) (x_xa : Nat) (x_xs : Nat) (x_xf : Nat) (x_xrs : Nat) (x_xrp : Nat) (y_m0 : Nat) (y_m0a1 : Nat) (y_m0a5 : Nat) (y_m0a6 : Nat) (y_m0a7 : Nat) (y_m0a8 : Nat) (y_m0a9 : Nat) (y_m0a11 : Nat) (y_m0a12 : Nat) (y_m0a13 : Nat) (y_m0a14 : Nat) (y_m0a15 : Nat) (y_m0a16 : Nat) (y_m0a18 : Nat) (y_m0a19 : Nat) (y_m0a20 : Nat) (y_m0a21 : Nat) (y_m0a22 : Nat) (y_m0a24 : Nat) (y_m0a25 : Nat) (y_m0a26 : Nat) (y_m0a28 : Nat) (y_m0a29 : Nat) (y_m0a30 : Nat) (y_m0a31 : Nat) (y_m0a33 : Nat) (y_m0a34 : Nat) (y_m0a35 : Nat) (y_m0a36 : Nat) (y_m0a37 : Nat) (y_m0a38 : Nat) (y_m0a39 : Nat) (y_m0a40 : Nat) (y_m0a41 : Nat) (y_m0a42 : Nat) (y_m0a43 : Nat) (y_m0a44 : Nat) (y_m0a45 : Nat) (y_m0a46 : Nat) (y_m0a47 : Nat) (y_m0a49 : Nat) (y_m0a50 : Nat) (y_m0a51 : Nat) (y_m0a53 : Nat) (y_m0a54 : Nat) (y_m0a55 : Nat) (y_m0a56 : Nat) (y_m0a57 : Nat) (y_m0a58 : Nat) (y_m0a59 : Nat) (y_m0a60 : Nat) (y_m0a61 : Nat) (y_m0a62 : Nat) (y_m0a63 : Nat) (y_m0a67 : Nat) (y_m0a68 : Nat) (y_m0a69 : Nat) (y_m0a70 : Nat) (y_m0a71 : Nat) (y_m0a72 : Nat) (y_m0a73 : Nat) (y_m0a74 : Nat) (y_m0a75 : Nat) : sp_X11_lay g x_x0 r i v x_xr x_xt x_xg x_xb x_xp x_xu x_xm x_xd x_xw x_xh x_xa x_xs x_xf x_xrs x_xrp = sp_X12_lay g y_m0 r i v y_m0a1 y_m0a5 y_m0a6 y_m0a7 y_m0a8 y_m0a9 y_m0a11 y_m0a12 y_m0a13 y_m0a14 y_m0a15 y_m0a16 y_m0a18 y_m0a19 y_m0a20 y_m0a21 y_m0a22 y_m0a24 y_m0a25 y_m0a26 y_m0a28 y_m0a29 y_m0a30 y_m0a31 y_m0a33 y_m0a34 y_m0a35 y_m0a36 y_m0a37 y_m0a38 y_m0a39 y_m0a40 y_m0a41 y_m0a42 y_m0a43 y_m0a44 y_m0a45 y_m0a46 y_m0a47 y_m0a49 y_m0a50 y_m0a51 y_m0a53 y_m0a54 y_m0a55 y_m0a56 y_m0a57 y_m0a58 y_m0a59 y_m0a60 y_m0a61 y_m0a62 y_m0a63 y_m0a67 y_m0a68 y_m0a69 y_m0a70 y_m0a71 y_m0a72 y_m0a73 y_m0a74 y_m0a75 := by
  unfold sp_X11_lay sp_X12_lay
  repeat' split
  all_goals first | rfl | (exfalso; simp only [i32lt, i32le, i32eq, Int32.reduceToInt] at *; omega)
set_option maxRecDepth 100000 in
theorem eq_person (g : GG) (x_x0 : Nat) (b0 : Int32) (w0 : Int32) (z0 : Int32) (k0 : Int32) (x_xr : Nat) (x_xt : Nat) (x_xg : Nat) (x_xb : Nat) (x_xp : Nat) (x_xu : Nat) (x_xm : Nat) (x_xd : Nat) (x_xw : Nat) (x_xh : Nat) (x_xa : Nat) (x_xs : Nat) (x_xf : Nat) (x_xba0 : Nat) (x_xba1 : Nat) (x_xba2 : Nat) (x_xba3 : Nat) (x_xba4 : Nat) (x_xba5 : Nat) (x_xba6 : Nat) (x_xba7 : Nat) (x_xba8 : Nat) (x_xba9 : Nat) (x_xba10 : Nat) (x_xba11 : Nat) (x_xpa0 : Nat) (x_xpa1 : Nat) (x_xpa2 : Nat) (x_xpa3 : Nat) (y_m0 : Nat) (y_m0a1 : Nat) (y_m0a5 : Nat) (y_m0a6 : Nat) (y_m0a7 : Nat) (y_m0a8 : Nat) (y_m0a9 : Nat) (y_m0a11 : Nat) (y_m0a12 : Nat) (y_m0a13 : Nat) (y_m0a14 : Nat) (y_m0a15 : Nat) (y_m0a16 : Nat) (y_m0a18 : Nat) (y_m0a19 : Nat) (y_m0a20 : Nat) (y_m0a21 : Nat) (y_m0a22 : Nat) (y_m0a24 : Nat) (y_m0a25 : Nat) (y_m0a26 : Nat) (y_m0a28 : Nat) (y_m0a29 : Nat) (y_m0a30 : Nat) (y_m0a31 : Nat) (y_m0a33 : Nat) (y_m0a34 : Nat) (y_m0a35 : Nat) (y_m0a36 : Nat) (y_m0a37 : Nat) (y_m0a38 : Nat) (y_m0a39 : Nat) (y_m0a40 : Nat) (y_m0a41 : Nat) (y_m0a42 : Nat) (y_m0a43 : Nat) (y_m0a44 : Nat) (y_m0a45 : Nat) (y_m0a46 : Nat) (y_m0a47 : Nat) (y_m0a49 : Nat) (y_m0a50 : Nat) (y_m0a51 : Nat) (y_m0a53 : Nat) (y_m0a54 : Nat) (y_m0a55 : Nat) (y_m0a56 : Nat) (y_m0a57 : Nat) (y_m0a58 : Nat) (y_m0a59 : Nat) (y_m0a60 : Nat) (y_m0a61 : Nat) (y_m0a62 : Nat) (y_m0a63 : Nat) (y_m0a67 : Nat) (y_m0a68 : Nat) (y_m0a69 : Nat) (y_m0a70 : Nat) (y_m0a71 : Nat) (y_m0a72 : Nat) (y_m0a73 : Nat) (y_m0a74 : Nat) (y_m0a75 : Nat) : sp_X11_person g x_x0 b0 w0 z0 k0 x_xr x_xt x_xg x_xb x_xp x_xu x_xm x_xd x_xw x_xh x_xa x_xs x_xf x_xba0 x_xba1 x_xba2 x_xba3 x_xba4 x_xba5 x_xba6 x_xba7 x_xba8 x_xba9 x_xba10 x_xba11 x_xpa0 x_xpa1 x_xpa2 x_xpa3 = sp_X12_person g y_m0 b0 w0 z0 k0 y_m0a1 y_m0a5 y_m0a6 y_m0a7 y_m0a8 y_m0a9 y_m0a11 y_m0a12 y_m0a13 y_m0a14 y_m0a15 y_m0a16 y_m0a18 y_m0a19 y_m0a20 y_m0a21 y_m0a22 y_m0a24 y_m0a25 y_m0a26 y_m0a28 y_m0a29 y_m0a30 y_m0a31 y_m0a33 y_m0a34 y_m0a35 y_m0a36 y_m0a37 y_m0a38 y_m0a39 y_m0a40 y_m0a41 y_m0a42 y_m0a43 y_m0a44 y_m0a45 y_m0a46 y_m0a47 y_m0a49 y_m0a50 y_m0a51 y_m0a53 y_m0a54 y_m0a55 y_m0a56 y_m0a57 y_m0a58 y_m0a59 y_m0a60 y_m0a61 y_m0a62 y_m0a63 y_m0a67 y_m0a68 y_m0a69 y_m0a70 y_m0a71 y_m0a72 y_m0a73 y_m0a74 y_m0a75 := by
  unfold sp_X11_person sp_X12_person
  repeat' split
  all_goals first | rfl | (exfalso; simp only [i32lt, i32le, i32eq, Int32.reduceToInt] at *; omega)
set_option maxRecDepth 100000 in
theorem eq_digest (g : GG) (x_x0 : Nat) (x_xr : Nat) (x_xt : Nat) (x_xg : Nat) (x_xb : Nat) (x_xp : Nat) (x_xu : Nat) (x_xm : Nat) (x_xd : Nat) (x_xw : Nat) (x_xh : Nat) (x_xa : Nat) (x_xs : Nat) (x_xf : Nat) (x_xrs : Nat) (x_xrp : Nat) (x_xts : Nat) (x_xtp : Nat) (x_xgs : Nat) (x_xgh : Nat) (x_xba0 : Nat) (x_xba1 : Nat) (x_xba2 : Nat) (x_xba3 : Nat) (x_xba4 : Nat) (x_xba5 : Nat) (x_xba6 : Nat) (x_xba7 : Nat) (x_xba8 : Nat) (x_xba9 : Nat) (x_xba10 : Nat) (x_xba11 : Nat) (x_xpa0 : Nat) (x_xpa1 : Nat) (x_xpa2 : Nat) (x_xpa3 : Nat) (x_xua0 : Nat) (x_xua1 : Nat) (x_xua2 : Nat) (x_xma0 : Nat) (x_xma1 : Nat) (x_xma2 : Nat) (x_xma3 : Nat) (x_xma4 : Nat) (x_xma5 : Nat) (x_xma6 : Nat) (x_xma7 : Nat) (x_xma8 : Nat) (x_xma9 : Nat) (x_xma10 : Nat) (x_xma11 : Nat) (x_xma12 : Nat) (x_xda0 : Nat) (x_xda1 : Nat) (x_xda2 : Nat) (x_xda3 : Nat) (x_xda4 : Nat) (x_xda5 : Nat) (y_m0 : Nat) (y_m0a1 : Nat) (y_m0a5 : Nat) (y_m0a6 : Nat) (y_m0a7 : Nat) (y_m0a8 : Nat) (y_m0a9 : Nat) (y_m0a11 : Nat) (y_m0a12 : Nat) (y_m0a13 : Nat) (y_m0a14 : Nat) (y_m0a15 : Nat) (y_m0a16 : Nat) (y_m0a18 : Nat) (y_m0a19 : Nat) (y_m0a20 : Nat) (y_m0a21 : Nat) (y_m0a22 : Nat) (y_m0a24 : Nat) (y_m0a25 : Nat) (y_m0a26 : Nat) (y_m0a28 : Nat) (y_m0a29 : Nat) (y_m0a30 : Nat) (y_m0a31 : Nat) (y_m0a33 : Nat) (y_m0a34 : Nat) (y_m0a35 : Nat) (y_m0a36 : Nat) (y_m0a37 : Nat) (y_m0a38 : Nat) (y_m0a39 : Nat) (y_m0a40 : Nat) (y_m0a41 : Nat) (y_m0a42 : Nat) (y_m0a43 : Nat) (y_m0a44 : Nat) (y_m0a45 : Nat) (y_m0a46 : Nat) (y_m0a47 : Nat) (y_m0a49 : Nat) (y_m0a50 : Nat) (y_m0a51 : Nat) (y_m0a53 : Nat) (y_m0a54 : Nat) (y_m0a55 : Nat) (y_m0a56 : Nat) (y_m0a57 : Nat) (y_m0a58 : Nat) (y_m0a59 : Nat) (y_m0a60 : Nat) (y_m0a61 : Nat) (y_m0a62 : Nat) (y_m0a63 : Nat) (y_m0a67 : Nat) (y_m0a68 : Nat) (y_m0a69 : Nat) (y_m0a70 : Nat) (y_m0a71 : Nat) (y_m0a72 : Nat) (y_m0a73 : Nat) (y_m0a74 : Nat) (y_m0a75 : Nat) : sp_X11_digest g x_x0 x_xr x_xt x_xg x_xb x_xp x_xu x_xm x_xd x_xw x_xh x_xa x_xs x_xf x_xrs x_xrp x_xts x_xtp x_xgs x_xgh x_xba0 x_xba1 x_xba2 x_xba3 x_xba4 x_xba5 x_xba6 x_xba7 x_xba8 x_xba9 x_xba10 x_xba11 x_xpa0 x_xpa1 x_xpa2 x_xpa3 x_xua0 x_xua1 x_xua2 x_xma0 x_xma1 x_xma2 x_xma3 x_xma4 x_xma5 x_xma6 x_xma7 x_xma8 x_xma9 x_xma10 x_xma11 x_xma12 x_xda0 x_xda1 x_xda2 x_xda3 x_xda4 x_xda5 = sp_X12_digest g y_m0 y_m0a1 y_m0a5 y_m0a6 y_m0a7 y_m0a8 y_m0a9 y_m0a11 y_m0a12 y_m0a13 y_m0a14 y_m0a15 y_m0a16 y_m0a18 y_m0a19 y_m0a20 y_m0a21 y_m0a22 y_m0a24 y_m0a25 y_m0a26 y_m0a28 y_m0a29 y_m0a30 y_m0a31 y_m0a33 y_m0a34 y_m0a35 y_m0a36 y_m0a37 y_m0a38 y_m0a39 y_m0a40 y_m0a41 y_m0a42 y_m0a43 y_m0a44 y_m0a45 y_m0a46 y_m0a47 y_m0a49 y_m0a50 y_m0a51 y_m0a53 y_m0a54 y_m0a55 y_m0a56 y_m0a57 y_m0a58 y_m0a59 y_m0a60 y_m0a61 y_m0a62 y_m0a63 y_m0a67 y_m0a68 y_m0a69 y_m0a70 y_m0a71 y_m0a72 y_m0a73 y_m0a74 y_m0a75 := by
  unfold sp_X11_digest sp_X12_digest
  decide +kernel
set_option maxHeartbeats 4000000 in
set_option maxRecDepth 100000 in
theorem law_0 (l : Launch) (g : GG) {p : Program} {e : Env} {s : State} {m : MethodId} {below : List Frame} {meth : Method} {c : Code} {b : Nat} {scr : Nat → Int32} (X : En p s m #[Value.ref b] meth c cL_law 4 ret R_law meth.name) (hK : va_K g.1 classes (tyG g) s) (hA : ∀ q, s.heap.size ≤ q → laA s q) (hZ : stS g (laA s) s s.heap) (hX : va_X b 6 scr s s.heap) (hbl : b < s.heap.size) (hbA : ¬ laA s b) (x0 : Nat) (xr : Nat) (xt : Nat) (xg : Nat) (xb : Nat) (xp : Nat) (xu : Nat) (xm : Nat) (xd : Nat) (xw : Nat) (xh : Nat) (xa : Nat) (xs : Nat) (xf : Nat) (xrs : Nat) (xrp : Nat) (m0 : Nat) (m0a1 : Nat) (m0a5 : Nat) (m0a6 : Nat) (m0a7 : Nat) (m0a8 : Nat) (m0a9 : Nat) (m0a11 : Nat) (m0a12 : Nat) (m0a13 : Nat) (m0a14 : Nat) (m0a15 : Nat) (m0a16 : Nat) (m0a18 : Nat) (m0a19 : Nat) (m0a20 : Nat) (m0a21 : Nat) (m0a22 : Nat) (m0a24 : Nat) (m0a25 : Nat) (m0a26 : Nat) (m0a28 : Nat) (m0a29 : Nat) (m0a30 : Nat) (m0a31 : Nat) (m0a33 : Nat) (m0a34 : Nat) (m0a35 : Nat) (m0a36 : Nat) (m0a37 : Nat) (m0a38 : Nat) (m0a39 : Nat) (m0a40 : Nat) (m0a41 : Nat) (m0a42 : Nat) (m0a43 : Nat) (m0a44 : Nat) (m0a45 : Nat) (m0a46 : Nat) (m0a47 : Nat) (m0a49 : Nat) (m0a50 : Nat) (m0a51 : Nat) (m0a53 : Nat) (m0a54 : Nat) (m0a55 : Nat) (m0a56 : Nat) (m0a57 : Nat) (m0a58 : Nat) (m0a59 : Nat) (m0a60 : Nat) (m0a61 : Nat) (m0a62 : Nat) (m0a63 : Nat) (m0a67 : Nat) (m0a68 : Nat) (m0a69 : Nat) (m0a70 : Nat) (m0a71 : Nat) (m0a72 : Nat) (m0a73 : Nat) (m0a74 : Nat) (m0a75 : Nat) {H : Heap} {locs : List Loc} {ls : Array Slot} (hP : va_P g.1 classes [(x0, .inr (11, [.ref xr, .ref xt, .ref xg, .ref xb, .ref xp, .ref xu, .ref xm, .ref xd, .ref xw, .ref xh, .ref xa, .ref xs, .ref xf, .int 0, .int 0, .long 0, .long 0, .int 0])), (xr, .inr (8, [.int 6, .int 0, .ref xrs, .ref xrp])), (xrs, .inl (cI g, 6, .inl (fun _ => (-1)))), (xrp, .inl (cI g, 240, .inl (fun _ => 0))), (xf, .inl (cI g, 6, .inl (fun _ => 0))), (m0, .inr (12, [.int 0, .ref m0a1, .int 0, .long 0, .int 0, .ref m0a5, .ref m0a6, .ref m0a7, .ref m0a8, .ref m0a9, .int 0, .ref m0a11, .ref m0a12, .ref m0a13, .ref m0a14, .ref m0a15, .ref m0a16, .int 0, .ref m0a18, .ref m0a19, .ref m0a20, .ref m0a21, .ref m0a22, .int 0, .ref m0a24, .ref m0a25, .ref m0a26, .int 0, .ref m0a28, .ref m0a29, .ref m0a30, .ref m0a31, .int 0, .ref m0a33, .ref m0a34, .ref m0a35, .ref m0a36, .ref m0a37, .ref m0a38, .ref m0a39, .ref m0a40, .ref m0a41, .ref m0a42, .ref m0a43, .ref m0a44, .ref m0a45, .ref m0a46, .ref m0a47, .int 0, .ref m0a49, .ref m0a50, .ref m0a51, .int 0, .ref m0a53, .ref m0a54, .ref m0a55, .ref m0a56, .ref m0a57, .ref m0a58, .ref m0a59, .ref m0a60, .ref m0a61, .ref m0a62, .ref m0a63, .long 0, .int 0, .int (-9), .ref m0a67, .ref m0a68, .ref m0a69, .ref m0a70, .ref m0a71, .ref m0a72, .ref m0a73, .ref m0a74, .ref m0a75, .long 0])), (m0a1, .inl (cI g, 6, .inl (fun _ => 0))), (m0a5, .inl (cI g, 6, .inl (fun _ => (-9)))), (m0a6, .inl (cI g, 240, .inl (fun _ => 0)))] H) (hD : va_D (laA s) [(x0, .inr (11, [.ref xr, .ref xt, .ref xg, .ref xb, .ref xp, .ref xu, .ref xm, .ref xd, .ref xw, .ref xh, .ref xa, .ref xs, .ref xf, .int 0, .int 0, .long 0, .long 0, .int 0])), (xr, .inr (8, [.int 6, .int 0, .ref xrs, .ref xrp])), (xrs, .inl (cI g, 6, .inl (fun _ => (-1)))), (xrp, .inl (cI g, 240, .inl (fun _ => 0))), (xf, .inl (cI g, 6, .inl (fun _ => 0))), (m0, .inr (12, [.int 0, .ref m0a1, .int 0, .long 0, .int 0, .ref m0a5, .ref m0a6, .ref m0a7, .ref m0a8, .ref m0a9, .int 0, .ref m0a11, .ref m0a12, .ref m0a13, .ref m0a14, .ref m0a15, .ref m0a16, .int 0, .ref m0a18, .ref m0a19, .ref m0a20, .ref m0a21, .ref m0a22, .int 0, .ref m0a24, .ref m0a25, .ref m0a26, .int 0, .ref m0a28, .ref m0a29, .ref m0a30, .ref m0a31, .int 0, .ref m0a33, .ref m0a34, .ref m0a35, .ref m0a36, .ref m0a37, .ref m0a38, .ref m0a39, .ref m0a40, .ref m0a41, .ref m0a42, .ref m0a43, .ref m0a44, .ref m0a45, .ref m0a46, .ref m0a47, .int 0, .ref m0a49, .ref m0a50, .ref m0a51, .int 0, .ref m0a53, .ref m0a54, .ref m0a55, .ref m0a56, .ref m0a57, .ref m0a58, .ref m0a59, .ref m0a60, .ref m0a61, .ref m0a62, .ref m0a63, .long 0, .int 0, .int (-9), .ref m0a67, .ref m0a68, .ref m0a69, .ref m0a70, .ref m0a71, .ref m0a72, .ref m0a73, .ref m0a74, .ref m0a75, .long 0])), (m0a1, .inl (cI g, 6, .inl (fun _ => 0))), (m0a5, .inl (cI g, 6, .inl (fun _ => (-9)))), (m0a6, .inl (cI g, 240, .inl (fun _ => 0)))]) (hS : va_S (laA s) s.heap H locs) (hl : lv_has ls 4 [(3, .int 0), (2, .ref m0), (1, .ref x0), (0, .ref b)]) {Q : State → Prop} (kend : ∀ (H : Heap) (locs : List Loc) (ls : Array Slot), va_S (laA s) s.heap H locs → lv_has ls 4 [(0, .ref b), (3, .int 0)] → W p l e room_1 s m #[Value.ref b] below meth c H locs 141 11384 Q (F0 m 1955 ls [])) : W p l e room_1 s m #[Value.ref b] below meth c H locs 141 11384 Q (F0 m 264 ls []) := by
  have hx := X.1
  have hb := X.2.1
  have hml := X.2.2.1
  have hown := X.2.2.2.1
  have hts := X.2.2.2.2.1
  refine lv_aload_n hx hb dL_law_264 rfl (lv_at hl 2 rfl) ?_
  refine lv_aload_n hx hb dL_law_265 rfl (lv_at hl 3 rfl) ?_
  refine lv_iload_n hx hb dL_law_266 rfl (lv_at hl 0 rfl) ?_
  refine lv_iconst (v := 1) hx hb dL_law_267 (by decide) ?_
  refine lv_iadd hx hb dL_law_268 ?_
  refine lv_topk (v := 1) (by decide) ?_
  refine va_sld hx hb hX hbl hbA hS (by unfold vp_in; decide) dL_law_269 ?_
  refine lv_topk (v := scr 1) rfl ?_
  refine lv_aload_n hx hb dL_law_270 rfl (lv_at hl 3 rfl) ?_
  refine lv_iload_n hx hb dL_law_271 rfl (lv_at hl 0 rfl) ?_
  refine lv_iconst (v := 2) hx hb dL_law_272 (by decide) ?_
  refine lv_iadd hx hb dL_law_273 ?_
  refine lv_topk (v := 2) (by decide) ?_
  refine va_sld hx hb hX hbl hbA hS (by unfold vp_in; decide) dL_law_274 ?_
  refine lv_topk (v := scr 2) rfl ?_
  refine kVi (As := [.int (scr 1), .int (scr 2)]) (rest := []) (wr := [(m0, .inr (12, [.int 0, .ref m0a1, .int 0, .long 0, .int 0, .ref m0a5, .ref m0a6, .ref m0a7, .ref m0a8, .ref m0a9, .int 0, .ref m0a11, .ref m0a12, .ref m0a13, .ref m0a14, .ref m0a15, .ref m0a16, .int 0, .ref m0a18, .ref m0a19, .ref m0a20, .ref m0a21, .ref m0a22, .int 0, .ref m0a24, .ref m0a25, .ref m0a26, .int 0, .ref m0a28, .ref m0a29, .ref m0a30, .ref m0a31, .int 0, .ref m0a33, .ref m0a34, .ref m0a35, .ref m0a36, .ref m0a37, .ref m0a38, .ref m0a39, .ref m0a40, .ref m0a41, .ref m0a42, .ref m0a43, .ref m0a44, .ref m0a45, .ref m0a46, .ref m0a47, .int 0, .ref m0a49, .ref m0a50, .ref m0a51, .int 0, .ref m0a53, .ref m0a54, .ref m0a55, .ref m0a56, .ref m0a57, .ref m0a58, .ref m0a59, .ref m0a60, .ref m0a61, .ref m0a62, .ref m0a63, .long 0, .int 0, .int (-9), .ref m0a67, .ref m0a68, .ref m0a69, .ref m0a70, .ref m0a71, .ref m0a72, .ref m0a73, .ref m0a74, .ref m0a75, .long 0])), (m0a1, .inl (cI g, 6, .inl (fun _ => 0))), (m0a5, .inl (cI g, 6, .inl (fun _ => (-9)))), (m0a6, .inl (cI g, 240, .inl (fun _ => 0)))]) X (c_X11_row l g x0 (scr 1) (scr 2) xr xt xg xb xp xu xm xd xw xh xa xs xf xrs xrp) ok_X11_row okv_X11_row q_513 rfl hK hP hD hS hA hZ hl.1 [0, 1, 2, 3, 4] [5, 6, 7, 8] rfl rfl rfl rfl rfl 0 11 rfl rfl rfl (Nat.le_of_ble_eq_true rfl) ⟨Nat.le_of_ble_eq_true rfl, Nat.le_of_ble_eq_true rfl⟩ dL_law_275 ⟨Nat.le_of_ble_eq_true rfl, Nat.le_of_ble_eq_true rfl⟩ (fun r_1 w1 H locs hw_2 hP hD hS => ?_)
  have hP := pSub hP (ws' := [(m0, .inr (12, [.int 0, .ref m0a1, .int 0, .long 0, .int 0, .ref m0a5, .ref m0a6, .ref m0a7, .ref m0a8, .ref m0a9, .int 0, .ref m0a11, .ref m0a12, .ref m0a13, .ref m0a14, .ref m0a15, .ref m0a16, .int 0, .ref m0a18, .ref m0a19, .ref m0a20, .ref m0a21, .ref m0a22, .int 0, .ref m0a24, .ref m0a25, .ref m0a26, .int 0, .ref m0a28, .ref m0a29, .ref m0a30, .ref m0a31, .int 0, .ref m0a33, .ref m0a34, .ref m0a35, .ref m0a36, .ref m0a37, .ref m0a38, .ref m0a39, .ref m0a40, .ref m0a41, .ref m0a42, .ref m0a43, .ref m0a44, .ref m0a45, .ref m0a46, .ref m0a47, .int 0, .ref m0a49, .ref m0a50, .ref m0a51, .int 0, .ref m0a53, .ref m0a54, .ref m0a55, .ref m0a56, .ref m0a57, .ref m0a58, .ref m0a59, .ref m0a60, .ref m0a61, .ref m0a62, .ref m0a63, .long 0, .int 0, .int (-9), .ref m0a67, .ref m0a68, .ref m0a69, .ref m0a70, .ref m0a71, .ref m0a72, .ref m0a73, .ref m0a74, .ref m0a75, .long 0])), (m0a1, .inl (cI g, 6, .inl (fun _ => 0))), (m0a5, .inl (cI g, 6, .inl (fun _ => (-9)))), (m0a6, .inl (cI g, 240, .inl (fun _ => 0)))]) [0, 1, 2, 3] rfl
  have hD := hD.sub (ws' := [(m0, .inr (12, [.int 0, .ref m0a1, .int 0, .long 0, .int 0, .ref m0a5, .ref m0a6, .ref m0a7, .ref m0a8, .ref m0a9, .int 0, .ref m0a11, .ref m0a12, .ref m0a13, .ref m0a14, .ref m0a15, .ref m0a16, .int 0, .ref m0a18, .ref m0a19, .ref m0a20, .ref m0a21, .ref m0a22, .int 0, .ref m0a24, .ref m0a25, .ref m0a26, .int 0, .ref m0a28, .ref m0a29, .ref m0a30, .ref m0a31, .int 0, .ref m0a33, .ref m0a34, .ref m0a35, .ref m0a36, .ref m0a37, .ref m0a38, .ref m0a39, .ref m0a40, .ref m0a41, .ref m0a42, .ref m0a43, .ref m0a44, .ref m0a45, .ref m0a46, .ref m0a47, .int 0, .ref m0a49, .ref m0a50, .ref m0a51, .int 0, .ref m0a53, .ref m0a54, .ref m0a55, .ref m0a56, .ref m0a57, .ref m0a58, .ref m0a59, .ref m0a60, .ref m0a61, .ref m0a62, .ref m0a63, .long 0, .int 0, .int (-9), .ref m0a67, .ref m0a68, .ref m0a69, .ref m0a70, .ref m0a71, .ref m0a72, .ref m0a73, .ref m0a74, .ref m0a75, .long 0])), (m0a1, .inl (cI g, 6, .inl (fun _ => 0))), (m0a5, .inl (cI g, 6, .inl (fun _ => (-9)))), (m0a6, .inl (cI g, 240, .inl (fun _ => 0)))]) [0, 1, 2, 3] rfl rfl
  refine lv_aload_n hx hb dL_law_278 rfl (lv_at hl 1 rfl) ?_
  refine lv_aload_n hx hb dL_law_279 rfl (lv_at hl 3 rfl) ?_
  refine lv_iload_n hx hb dL_law_280 rfl (lv_at hl 0 rfl) ?_
  refine lv_iconst (v := 1) hx hb dL_law_281 (by decide) ?_
  refine lv_iadd hx hb dL_law_282 ?_
  refine lv_topk (v := 1) (by decide) ?_
  refine va_sld hx hb hX hbl hbA hS (by unfold vp_in; decide) dL_law_283 ?_
  refine lv_topk (v := scr 1) rfl ?_
  refine lv_aload_n hx hb dL_law_284 rfl (lv_at hl 3 rfl) ?_
  refine lv_iload_n hx hb dL_law_285 rfl (lv_at hl 0 rfl) ?_
  refine lv_iconst (v := 2) hx hb dL_law_286 (by decide) ?_
  refine lv_iadd hx hb dL_law_287 ?_
  refine lv_topk (v := 2) (by decide) ?_
  refine va_sld hx hb hX hbl hbA hS (by unfold vp_in; decide) dL_law_288 ?_
  refine lv_topk (v := scr 2) rfl ?_
  refine kVi (As := [.int (scr 1), .int (scr 2)]) (rest := [.int r_1]) (wr := []) X (c_X12_row l g m0 (scr 1) (scr 2) m0a1 m0a5 m0a6 m0a7 m0a8 m0a9 m0a11 m0a12 m0a13 m0a14 m0a15 m0a16 m0a18 m0a19 m0a20 m0a21 m0a22 m0a24 m0a25 m0a26 m0a28 m0a29 m0a30 m0a31 m0a33 m0a34 m0a35 m0a36 m0a37 m0a38 m0a39 m0a40 m0a41 m0a42 m0a43 m0a44 m0a45 m0a46 m0a47 m0a49 m0a50 m0a51 m0a53 m0a54 m0a55 m0a56 m0a57 m0a58 m0a59 m0a60 m0a61 m0a62 m0a63 m0a67 m0a68 m0a69 m0a70 m0a71 m0a72 m0a73 m0a74 m0a75) ok_X12_row okv_X12_row q_1698 rfl hK hP hD hS hA hZ hl.1 [0, 1, 2, 3] [] rfl rfl rfl rfl rfl 0 12 rfl rfl rfl (Nat.le_of_ble_eq_true rfl) ⟨Nat.le_of_ble_eq_true rfl, Nat.le_of_ble_eq_true rfl⟩ dL_law_289 ⟨Nat.le_of_ble_eq_true rfl, Nat.le_of_ble_eq_true rfl⟩ (fun r_3 w1 H locs hw_4 hP hD hS => ?_)
  have hP := pSub hP (ws' := []) [] rfl
  have hD := hD.sub (ws' := []) [] rfl rfl
  refine lv_icmp_eq (tgt := 1955) hx hb dL_law_292 (by decide) (fun _ => ?_) (fun c => absurd (hw_2.trans ((eq_row g x0 (scr 1) (scr 2) xr xt xg xb xp xu xm xd xw xh xa xs xf xrs xrp m0 m0a1 m0a5 m0a6 m0a7 m0a8 m0a9 m0a11 m0a12 m0a13 m0a14 m0a15 m0a16 m0a18 m0a19 m0a20 m0a21 m0a22 m0a24 m0a25 m0a26 m0a28 m0a29 m0a30 m0a31 m0a33 m0a34 m0a35 m0a36 m0a37 m0a38 m0a39 m0a40 m0a41 m0a42 m0a43 m0a44 m0a45 m0a46 m0a47 m0a49 m0a50 m0a51 m0a53 m0a54 m0a55 m0a56 m0a57 m0a58 m0a59 m0a60 m0a61 m0a62 m0a63 m0a67 m0a68 m0a69 m0a70 m0a71 m0a72 m0a73 m0a74 m0a75).trans hw_4.symm)) c)
  exact kend _ _ _ hS (lv_sub hl [3, 0] rfl)
set_option maxHeartbeats 4000000 in
set_option maxRecDepth 100000 in
theorem law_1 (l : Launch) (g : GG) {p : Program} {e : Env} {s : State} {m : MethodId} {below : List Frame} {meth : Method} {c : Code} {b : Nat} {scr : Nat → Int32} (X : En p s m #[Value.ref b] meth c cL_law 4 ret R_law meth.name) (hK : va_K g.1 classes (tyG g) s) (hA : ∀ q, s.heap.size ≤ q → laA s q) (hZ : stS g (laA s) s s.heap) (hX : va_X b 6 scr s s.heap) (hbl : b < s.heap.size) (hbA : ¬ laA s b) (x0 : Nat) (xr : Nat) (xt : Nat) (xg : Nat) (xb : Nat) (xp : Nat) (xu : Nat) (xm : Nat) (xd : Nat) (xw : Nat) (xh : Nat) (xa : Nat) (xs : Nat) (xf : Nat) (xrs : Nat) (xrp : Nat) (m0 : Nat) (m0a1 : Nat) (m0a5 : Nat) (m0a6 : Nat) (m0a7 : Nat) (m0a8 : Nat) (m0a9 : Nat) (m0a11 : Nat) (m0a12 : Nat) (m0a13 : Nat) (m0a14 : Nat) (m0a15 : Nat) (m0a16 : Nat) (m0a18 : Nat) (m0a19 : Nat) (m0a20 : Nat) (m0a21 : Nat) (m0a22 : Nat) (m0a24 : Nat) (m0a25 : Nat) (m0a26 : Nat) (m0a28 : Nat) (m0a29 : Nat) (m0a30 : Nat) (m0a31 : Nat) (m0a33 : Nat) (m0a34 : Nat) (m0a35 : Nat) (m0a36 : Nat) (m0a37 : Nat) (m0a38 : Nat) (m0a39 : Nat) (m0a40 : Nat) (m0a41 : Nat) (m0a42 : Nat) (m0a43 : Nat) (m0a44 : Nat) (m0a45 : Nat) (m0a46 : Nat) (m0a47 : Nat) (m0a49 : Nat) (m0a50 : Nat) (m0a51 : Nat) (m0a53 : Nat) (m0a54 : Nat) (m0a55 : Nat) (m0a56 : Nat) (m0a57 : Nat) (m0a58 : Nat) (m0a59 : Nat) (m0a60 : Nat) (m0a61 : Nat) (m0a62 : Nat) (m0a63 : Nat) (m0a67 : Nat) (m0a68 : Nat) (m0a69 : Nat) (m0a70 : Nat) (m0a71 : Nat) (m0a72 : Nat) (m0a73 : Nat) (m0a74 : Nat) (m0a75 : Nat) {H : Heap} {locs : List Loc} {ls : Array Slot} (hP : va_P g.1 classes [(x0, .inr (11, [.ref xr, .ref xt, .ref xg, .ref xb, .ref xp, .ref xu, .ref xm, .ref xd, .ref xw, .ref xh, .ref xa, .ref xs, .ref xf, .int 0, .int 0, .long 0, .long 0, .int 0])), (xr, .inr (8, [.int 6, .int 0, .ref xrs, .ref xrp])), (xrs, .inl (cI g, 6, .inl (fun _ => (-1)))), (xf, .inl (cI g, 6, .inl (fun _ => 0))), (m0, .inr (12, [.int 0, .ref m0a1, .int 0, .long 0, .int 0, .ref m0a5, .ref m0a6, .ref m0a7, .ref m0a8, .ref m0a9, .int 0, .ref m0a11, .ref m0a12, .ref m0a13, .ref m0a14, .ref m0a15, .ref m0a16, .int 0, .ref m0a18, .ref m0a19, .ref m0a20, .ref m0a21, .ref m0a22, .int 0, .ref m0a24, .ref m0a25, .ref m0a26, .int 0, .ref m0a28, .ref m0a29, .ref m0a30, .ref m0a31, .int 0, .ref m0a33, .ref m0a34, .ref m0a35, .ref m0a36, .ref m0a37, .ref m0a38, .ref m0a39, .ref m0a40, .ref m0a41, .ref m0a42, .ref m0a43, .ref m0a44, .ref m0a45, .ref m0a46, .ref m0a47, .int 0, .ref m0a49, .ref m0a50, .ref m0a51, .int 0, .ref m0a53, .ref m0a54, .ref m0a55, .ref m0a56, .ref m0a57, .ref m0a58, .ref m0a59, .ref m0a60, .ref m0a61, .ref m0a62, .ref m0a63, .long 0, .int 0, .int (-9), .ref m0a67, .ref m0a68, .ref m0a69, .ref m0a70, .ref m0a71, .ref m0a72, .ref m0a73, .ref m0a74, .ref m0a75, .long 0])), (m0a1, .inl (cI g, 6, .inl (fun _ => 0))), (m0a5, .inl (cI g, 6, .inl (fun _ => (-9))))] H) (hD : va_D (laA s) [(x0, .inr (11, [.ref xr, .ref xt, .ref xg, .ref xb, .ref xp, .ref xu, .ref xm, .ref xd, .ref xw, .ref xh, .ref xa, .ref xs, .ref xf, .int 0, .int 0, .long 0, .long 0, .int 0])), (xr, .inr (8, [.int 6, .int 0, .ref xrs, .ref xrp])), (xrs, .inl (cI g, 6, .inl (fun _ => (-1)))), (xf, .inl (cI g, 6, .inl (fun _ => 0))), (m0, .inr (12, [.int 0, .ref m0a1, .int 0, .long 0, .int 0, .ref m0a5, .ref m0a6, .ref m0a7, .ref m0a8, .ref m0a9, .int 0, .ref m0a11, .ref m0a12, .ref m0a13, .ref m0a14, .ref m0a15, .ref m0a16, .int 0, .ref m0a18, .ref m0a19, .ref m0a20, .ref m0a21, .ref m0a22, .int 0, .ref m0a24, .ref m0a25, .ref m0a26, .int 0, .ref m0a28, .ref m0a29, .ref m0a30, .ref m0a31, .int 0, .ref m0a33, .ref m0a34, .ref m0a35, .ref m0a36, .ref m0a37, .ref m0a38, .ref m0a39, .ref m0a40, .ref m0a41, .ref m0a42, .ref m0a43, .ref m0a44, .ref m0a45, .ref m0a46, .ref m0a47, .int 0, .ref m0a49, .ref m0a50, .ref m0a51, .int 0, .ref m0a53, .ref m0a54, .ref m0a55, .ref m0a56, .ref m0a57, .ref m0a58, .ref m0a59, .ref m0a60, .ref m0a61, .ref m0a62, .ref m0a63, .long 0, .int 0, .int (-9), .ref m0a67, .ref m0a68, .ref m0a69, .ref m0a70, .ref m0a71, .ref m0a72, .ref m0a73, .ref m0a74, .ref m0a75, .long 0])), (m0a1, .inl (cI g, 6, .inl (fun _ => 0))), (m0a5, .inl (cI g, 6, .inl (fun _ => (-9))))]) (hS : va_S (laA s) s.heap H locs) (hl : lv_has ls 4 [(3, .int 0), (2, .ref m0), (1, .ref x0), (0, .ref b)]) {Q : State → Prop} (kend : ∀ (H : Heap) (locs : List Loc) (ls : Array Slot), va_S (laA s) s.heap H locs → lv_has ls 4 [(0, .ref b), (3, .int 0)] → W p l e room_1 s m #[Value.ref b] below meth c H locs 141 11384 Q (F0 m 1955 ls [])) : W p l e room_1 s m #[Value.ref b] below meth c H locs 141 11384 Q (F0 m 297 ls []) := by
  have hx := X.1
  have hb := X.2.1
  have hml := X.2.2.1
  have hown := X.2.2.2.1
  have hts := X.2.2.2.2.1
  refine lv_aload_n hx hb dL_law_297 rfl (lv_at hl 2 rfl) ?_
  refine lv_aload_n hx hb dL_law_298 rfl (lv_at hl 3 rfl) ?_
  refine lv_iload_n hx hb dL_law_299 rfl (lv_at hl 0 rfl) ?_
  refine lv_iconst (v := 1) hx hb dL_law_300 (by decide) ?_
  refine lv_iadd hx hb dL_law_301 ?_
  refine lv_topk (v := 1) (by decide) ?_
  refine va_sld hx hb hX hbl hbA hS (by unfold vp_in; decide) dL_law_302 ?_
  refine lv_topk (v := scr 1) rfl ?_
  refine lv_aload_n hx hb dL_law_303 rfl (lv_at hl 3 rfl) ?_
  refine lv_iload_n hx hb dL_law_304 rfl (lv_at hl 0 rfl) ?_
  refine lv_iconst (v := 2) hx hb dL_law_305 (by decide) ?_
  refine lv_iadd hx hb dL_law_306 ?_
  refine lv_topk (v := 2) (by decide) ?_
  refine va_sld hx hb hX hbl hbA hS (by unfold vp_in; decide) dL_law_307 ?_
  refine lv_topk (v := scr 2) rfl ?_
  refine lv_aload_n hx hb dL_law_308 rfl (lv_at hl 3 rfl) ?_
  refine lv_iload_n hx hb dL_law_309 rfl (lv_at hl 0 rfl) ?_
  refine lv_iconst (v := 3) hx hb dL_law_310 (by decide) ?_
  refine lv_iadd hx hb dL_law_311 ?_
  refine lv_topk (v := 3) (by decide) ?_
  refine va_sld hx hb hX hbl hbA hS (by unfold vp_in; decide) dL_law_312 ?_
  refine lv_topk (v := scr 3) rfl ?_
  refine kVi (As := [.int (scr 1), .int (scr 2), .int (scr 3)]) (rest := []) (wr := [(m0, .inr (12, [.int 0, .ref m0a1, .int 0, .long 0, .int 0, .ref m0a5, .ref m0a6, .ref m0a7, .ref m0a8, .ref m0a9, .int 0, .ref m0a11, .ref m0a12, .ref m0a13, .ref m0a14, .ref m0a15, .ref m0a16, .int 0, .ref m0a18, .ref m0a19, .ref m0a20, .ref m0a21, .ref m0a22, .int 0, .ref m0a24, .ref m0a25, .ref m0a26, .int 0, .ref m0a28, .ref m0a29, .ref m0a30, .ref m0a31, .int 0, .ref m0a33, .ref m0a34, .ref m0a35, .ref m0a36, .ref m0a37, .ref m0a38, .ref m0a39, .ref m0a40, .ref m0a41, .ref m0a42, .ref m0a43, .ref m0a44, .ref m0a45, .ref m0a46, .ref m0a47, .int 0, .ref m0a49, .ref m0a50, .ref m0a51, .int 0, .ref m0a53, .ref m0a54, .ref m0a55, .ref m0a56, .ref m0a57, .ref m0a58, .ref m0a59, .ref m0a60, .ref m0a61, .ref m0a62, .ref m0a63, .long 0, .int 0, .int (-9), .ref m0a67, .ref m0a68, .ref m0a69, .ref m0a70, .ref m0a71, .ref m0a72, .ref m0a73, .ref m0a74, .ref m0a75, .long 0])), (m0a1, .inl (cI g, 6, .inl (fun _ => 0))), (m0a5, .inl (cI g, 6, .inl (fun _ => (-9))))]) X (c_X11_lay l g x0 (scr 1) (scr 2) (scr 3) xr xt xg xb xp xu xm xd xw xh xa xs xf xrs xrp) ok_X11_lay okv_X11_lay q_535 rfl hK hP hD hS hA hZ hl.1 [0, 1, 2, 3] [4, 5, 6] rfl rfl rfl rfl rfl 0 11 rfl rfl rfl (Nat.le_of_ble_eq_true rfl) ⟨Nat.le_of_ble_eq_true rfl, Nat.le_of_ble_eq_true rfl⟩ dL_law_313 ⟨Nat.le_of_ble_eq_true rfl, Nat.le_of_ble_eq_true rfl⟩ (fun r_1 w1 H locs hw_2 hP hD hS => ?_)
  have hP := pSub hP (ws' := [(m0, .inr (12, [.int 0, .ref m0a1, .int 0, .long 0, .int 0, .ref m0a5, .ref m0a6, .ref m0a7, .ref m0a8, .ref m0a9, .int 0, .ref m0a11, .ref m0a12, .ref m0a13, .ref m0a14, .ref m0a15, .ref m0a16, .int 0, .ref m0a18, .ref m0a19, .ref m0a20, .ref m0a21, .ref m0a22, .int 0, .ref m0a24, .ref m0a25, .ref m0a26, .int 0, .ref m0a28, .ref m0a29, .ref m0a30, .ref m0a31, .int 0, .ref m0a33, .ref m0a34, .ref m0a35, .ref m0a36, .ref m0a37, .ref m0a38, .ref m0a39, .ref m0a40, .ref m0a41, .ref m0a42, .ref m0a43, .ref m0a44, .ref m0a45, .ref m0a46, .ref m0a47, .int 0, .ref m0a49, .ref m0a50, .ref m0a51, .int 0, .ref m0a53, .ref m0a54, .ref m0a55, .ref m0a56, .ref m0a57, .ref m0a58, .ref m0a59, .ref m0a60, .ref m0a61, .ref m0a62, .ref m0a63, .long 0, .int 0, .int (-9), .ref m0a67, .ref m0a68, .ref m0a69, .ref m0a70, .ref m0a71, .ref m0a72, .ref m0a73, .ref m0a74, .ref m0a75, .long 0])), (m0a1, .inl (cI g, 6, .inl (fun _ => 0))), (m0a5, .inl (cI g, 6, .inl (fun _ => (-9))))]) [0, 1, 2] rfl
  have hD := hD.sub (ws' := [(m0, .inr (12, [.int 0, .ref m0a1, .int 0, .long 0, .int 0, .ref m0a5, .ref m0a6, .ref m0a7, .ref m0a8, .ref m0a9, .int 0, .ref m0a11, .ref m0a12, .ref m0a13, .ref m0a14, .ref m0a15, .ref m0a16, .int 0, .ref m0a18, .ref m0a19, .ref m0a20, .ref m0a21, .ref m0a22, .int 0, .ref m0a24, .ref m0a25, .ref m0a26, .int 0, .ref m0a28, .ref m0a29, .ref m0a30, .ref m0a31, .int 0, .ref m0a33, .ref m0a34, .ref m0a35, .ref m0a36, .ref m0a37, .ref m0a38, .ref m0a39, .ref m0a40, .ref m0a41, .ref m0a42, .ref m0a43, .ref m0a44, .ref m0a45, .ref m0a46, .ref m0a47, .int 0, .ref m0a49, .ref m0a50, .ref m0a51, .int 0, .ref m0a53, .ref m0a54, .ref m0a55, .ref m0a56, .ref m0a57, .ref m0a58, .ref m0a59, .ref m0a60, .ref m0a61, .ref m0a62, .ref m0a63, .long 0, .int 0, .int (-9), .ref m0a67, .ref m0a68, .ref m0a69, .ref m0a70, .ref m0a71, .ref m0a72, .ref m0a73, .ref m0a74, .ref m0a75, .long 0])), (m0a1, .inl (cI g, 6, .inl (fun _ => 0))), (m0a5, .inl (cI g, 6, .inl (fun _ => (-9))))]) [0, 1, 2] rfl rfl
  refine lv_aload_n hx hb dL_law_316 rfl (lv_at hl 1 rfl) ?_
  refine lv_aload_n hx hb dL_law_317 rfl (lv_at hl 3 rfl) ?_
  refine lv_iload_n hx hb dL_law_318 rfl (lv_at hl 0 rfl) ?_
  refine lv_iconst (v := 1) hx hb dL_law_319 (by decide) ?_
  refine lv_iadd hx hb dL_law_320 ?_
  refine lv_topk (v := 1) (by decide) ?_
  refine va_sld hx hb hX hbl hbA hS (by unfold vp_in; decide) dL_law_321 ?_
  refine lv_topk (v := scr 1) rfl ?_
  refine lv_aload_n hx hb dL_law_322 rfl (lv_at hl 3 rfl) ?_
  refine lv_iload_n hx hb dL_law_323 rfl (lv_at hl 0 rfl) ?_
  refine lv_iconst (v := 2) hx hb dL_law_324 (by decide) ?_
  refine lv_iadd hx hb dL_law_325 ?_
  refine lv_topk (v := 2) (by decide) ?_
  refine va_sld hx hb hX hbl hbA hS (by unfold vp_in; decide) dL_law_326 ?_
  refine lv_topk (v := scr 2) rfl ?_
  refine lv_aload_n hx hb dL_law_327 rfl (lv_at hl 3 rfl) ?_
  refine lv_iload_n hx hb dL_law_328 rfl (lv_at hl 0 rfl) ?_
  refine lv_iconst (v := 3) hx hb dL_law_329 (by decide) ?_
  refine lv_iadd hx hb dL_law_330 ?_
  refine lv_topk (v := 3) (by decide) ?_
  refine va_sld hx hb hX hbl hbA hS (by unfold vp_in; decide) dL_law_331 ?_
  refine lv_topk (v := scr 3) rfl ?_
  refine kVi (As := [.int (scr 1), .int (scr 2), .int (scr 3)]) (rest := [.int r_1]) (wr := []) X (c_X12_lay l g m0 (scr 1) (scr 2) (scr 3) m0a1 m0a5 m0a6 m0a7 m0a8 m0a9 m0a11 m0a12 m0a13 m0a14 m0a15 m0a16 m0a18 m0a19 m0a20 m0a21 m0a22 m0a24 m0a25 m0a26 m0a28 m0a29 m0a30 m0a31 m0a33 m0a34 m0a35 m0a36 m0a37 m0a38 m0a39 m0a40 m0a41 m0a42 m0a43 m0a44 m0a45 m0a46 m0a47 m0a49 m0a50 m0a51 m0a53 m0a54 m0a55 m0a56 m0a57 m0a58 m0a59 m0a60 m0a61 m0a62 m0a63 m0a67 m0a68 m0a69 m0a70 m0a71 m0a72 m0a73 m0a74 m0a75) ok_X12_lay okv_X12_lay q_1712 rfl hK hP hD hS hA hZ hl.1 [0, 1, 2] [] rfl rfl rfl rfl rfl 0 12 rfl rfl rfl (Nat.le_of_ble_eq_true rfl) ⟨Nat.le_of_ble_eq_true rfl, Nat.le_of_ble_eq_true rfl⟩ dL_law_332 ⟨Nat.le_of_ble_eq_true rfl, Nat.le_of_ble_eq_true rfl⟩ (fun r_3 w1 H locs hw_4 hP hD hS => ?_)
  have hP := pSub hP (ws' := []) [] rfl
  have hD := hD.sub (ws' := []) [] rfl rfl
  refine lv_icmp_eq (tgt := 1955) hx hb dL_law_335 (by decide) (fun _ => ?_) (fun c => absurd (hw_2.trans ((eq_lay g x0 (scr 1) (scr 2) (scr 3) xr xt xg xb xp xu xm xd xw xh xa xs xf xrs xrp m0 m0a1 m0a5 m0a6 m0a7 m0a8 m0a9 m0a11 m0a12 m0a13 m0a14 m0a15 m0a16 m0a18 m0a19 m0a20 m0a21 m0a22 m0a24 m0a25 m0a26 m0a28 m0a29 m0a30 m0a31 m0a33 m0a34 m0a35 m0a36 m0a37 m0a38 m0a39 m0a40 m0a41 m0a42 m0a43 m0a44 m0a45 m0a46 m0a47 m0a49 m0a50 m0a51 m0a53 m0a54 m0a55 m0a56 m0a57 m0a58 m0a59 m0a60 m0a61 m0a62 m0a63 m0a67 m0a68 m0a69 m0a70 m0a71 m0a72 m0a73 m0a74 m0a75).trans hw_4.symm)) c)
  exact kend _ _ _ hS (lv_sub hl [3, 0] rfl)
set_option maxHeartbeats 4000000 in
set_option maxRecDepth 100000 in
theorem law_13 (l : Launch) (g : GG) {p : Program} {e : Env} {s : State} {m : MethodId} {below : List Frame} {meth : Method} {c : Code} {b : Nat} {scr : Nat → Int32} (X : En p s m #[Value.ref b] meth c cL_law 4 ret R_law meth.name) (hK : va_K g.1 classes (tyG g) s) (hA : ∀ q, s.heap.size ≤ q → laA s q) (hZ : stS g (laA s) s s.heap) (hX : va_X b 6 scr s s.heap) (hbl : b < s.heap.size) (hbA : ¬ laA s b) (x0 : Nat) (xr : Nat) (xt : Nat) (xg : Nat) (xb : Nat) (xp : Nat) (xu : Nat) (xm : Nat) (xd : Nat) (xw : Nat) (xh : Nat) (xa : Nat) (xs : Nat) (xf : Nat) (xba0 : Nat) (xba1 : Nat) (xba2 : Nat) (xba3 : Nat) (xba4 : Nat) (xba5 : Nat) (xba6 : Nat) (xba7 : Nat) (xba8 : Nat) (xba9 : Nat) (xba10 : Nat) (xba11 : Nat) (xpa0 : Nat) (xpa1 : Nat) (xpa2 : Nat) (xpa3 : Nat) (m0 : Nat) (m0a1 : Nat) (m0a5 : Nat) (m0a6 : Nat) (m0a7 : Nat) (m0a8 : Nat) (m0a9 : Nat) (m0a11 : Nat) (m0a12 : Nat) (m0a13 : Nat) (m0a14 : Nat) (m0a15 : Nat) (m0a16 : Nat) (m0a18 : Nat) (m0a19 : Nat) (m0a20 : Nat) (m0a21 : Nat) (m0a22 : Nat) (m0a24 : Nat) (m0a25 : Nat) (m0a26 : Nat) (m0a28 : Nat) (m0a29 : Nat) (m0a30 : Nat) (m0a31 : Nat) (m0a33 : Nat) (m0a34 : Nat) (m0a35 : Nat) (m0a36 : Nat) (m0a37 : Nat) (m0a38 : Nat) (m0a39 : Nat) (m0a40 : Nat) (m0a41 : Nat) (m0a42 : Nat) (m0a43 : Nat) (m0a44 : Nat) (m0a45 : Nat) (m0a46 : Nat) (m0a47 : Nat) (m0a49 : Nat) (m0a50 : Nat) (m0a51 : Nat) (m0a53 : Nat) (m0a54 : Nat) (m0a55 : Nat) (m0a56 : Nat) (m0a57 : Nat) (m0a58 : Nat) (m0a59 : Nat) (m0a60 : Nat) (m0a61 : Nat) (m0a62 : Nat) (m0a63 : Nat) (m0a67 : Nat) (m0a68 : Nat) (m0a69 : Nat) (m0a70 : Nat) (m0a71 : Nat) (m0a72 : Nat) (m0a73 : Nat) (m0a74 : Nat) (m0a75 : Nat) {H : Heap} {locs : List Loc} {ls : Array Slot} (hP : va_P g.1 classes [(x0, .inr (11, [.ref xr, .ref xt, .ref xg, .ref xb, .ref xp, .ref xu, .ref xm, .ref xd, .ref xw, .ref xh, .ref xa, .ref xs, .ref xf, .int 0, .int 0, .long 0, .long 0, .int 0])), (xb, .inr (1, [.ref xba0, .ref xba1, .ref xba2, .ref xba3, .ref xba4, .ref xba5, .ref xba6, .ref xba7, .ref xba8, .ref xba9, .ref xba10, .ref xba11, .int 0, .int 0])), (xp, .inr (5, [.ref xpa0, .ref xpa1, .ref xpa2, .ref xpa3, .int 0])), (xpa0, .inl (cI g, 40, .inl (fun _ => 0))), (xpa1, .inl (cI g, 40, .inl (fun _ => 0))), (xpa2, .inl (cZ g, 40, .inl (fun _ => 0))), (xpa3, .inl (cI g, 40, .inl (fun _ => 0))), (m0, .inr (12, [.int 0, .ref m0a1, .int 0, .long 0, .int 0, .ref m0a5, .ref m0a6, .ref m0a7, .ref m0a8, .ref m0a9, .int 0, .ref m0a11, .ref m0a12, .ref m0a13, .ref m0a14, .ref m0a15, .ref m0a16, .int 0, .ref m0a18, .ref m0a19, .ref m0a20, .ref m0a21, .ref m0a22, .int 0, .ref m0a24, .ref m0a25, .ref m0a26, .int 0, .ref m0a28, .ref m0a29, .ref m0a30, .ref m0a31, .int 0, .ref m0a33, .ref m0a34, .ref m0a35, .ref m0a36, .ref m0a37, .ref m0a38, .ref m0a39, .ref m0a40, .ref m0a41, .ref m0a42, .ref m0a43, .ref m0a44, .ref m0a45, .ref m0a46, .ref m0a47, .int 0, .ref m0a49, .ref m0a50, .ref m0a51, .int 0, .ref m0a53, .ref m0a54, .ref m0a55, .ref m0a56, .ref m0a57, .ref m0a58, .ref m0a59, .ref m0a60, .ref m0a61, .ref m0a62, .ref m0a63, .long 0, .int 0, .int (-9), .ref m0a67, .ref m0a68, .ref m0a69, .ref m0a70, .ref m0a71, .ref m0a72, .ref m0a73, .ref m0a74, .ref m0a75, .long 0])), (m0a28, .inl (cI g, 40, .inl (fun _ => 0))), (m0a29, .inl (cI g, 40, .inl (fun _ => 0))), (m0a30, .inl (cZ g, 40, .inl (fun _ => 0))), (m0a31, .inl (cI g, 40, .inl (fun _ => 0)))] H) (hD : va_D (laA s) [(x0, .inr (11, [.ref xr, .ref xt, .ref xg, .ref xb, .ref xp, .ref xu, .ref xm, .ref xd, .ref xw, .ref xh, .ref xa, .ref xs, .ref xf, .int 0, .int 0, .long 0, .long 0, .int 0])), (xb, .inr (1, [.ref xba0, .ref xba1, .ref xba2, .ref xba3, .ref xba4, .ref xba5, .ref xba6, .ref xba7, .ref xba8, .ref xba9, .ref xba10, .ref xba11, .int 0, .int 0])), (xp, .inr (5, [.ref xpa0, .ref xpa1, .ref xpa2, .ref xpa3, .int 0])), (xpa0, .inl (cI g, 40, .inl (fun _ => 0))), (xpa1, .inl (cI g, 40, .inl (fun _ => 0))), (xpa2, .inl (cZ g, 40, .inl (fun _ => 0))), (xpa3, .inl (cI g, 40, .inl (fun _ => 0))), (m0, .inr (12, [.int 0, .ref m0a1, .int 0, .long 0, .int 0, .ref m0a5, .ref m0a6, .ref m0a7, .ref m0a8, .ref m0a9, .int 0, .ref m0a11, .ref m0a12, .ref m0a13, .ref m0a14, .ref m0a15, .ref m0a16, .int 0, .ref m0a18, .ref m0a19, .ref m0a20, .ref m0a21, .ref m0a22, .int 0, .ref m0a24, .ref m0a25, .ref m0a26, .int 0, .ref m0a28, .ref m0a29, .ref m0a30, .ref m0a31, .int 0, .ref m0a33, .ref m0a34, .ref m0a35, .ref m0a36, .ref m0a37, .ref m0a38, .ref m0a39, .ref m0a40, .ref m0a41, .ref m0a42, .ref m0a43, .ref m0a44, .ref m0a45, .ref m0a46, .ref m0a47, .int 0, .ref m0a49, .ref m0a50, .ref m0a51, .int 0, .ref m0a53, .ref m0a54, .ref m0a55, .ref m0a56, .ref m0a57, .ref m0a58, .ref m0a59, .ref m0a60, .ref m0a61, .ref m0a62, .ref m0a63, .long 0, .int 0, .int (-9), .ref m0a67, .ref m0a68, .ref m0a69, .ref m0a70, .ref m0a71, .ref m0a72, .ref m0a73, .ref m0a74, .ref m0a75, .long 0])), (m0a28, .inl (cI g, 40, .inl (fun _ => 0))), (m0a29, .inl (cI g, 40, .inl (fun _ => 0))), (m0a30, .inl (cZ g, 40, .inl (fun _ => 0))), (m0a31, .inl (cI g, 40, .inl (fun _ => 0)))]) (hS : va_S (laA s) s.heap H locs) (hl : lv_has ls 4 [(3, .int 0), (2, .ref m0), (1, .ref x0), (0, .ref b)]) {Q : State → Prop} (kend : ∀ (H : Heap) (locs : List Loc) (ls : Array Slot), va_S (laA s) s.heap H locs → lv_has ls 4 [(0, .ref b), (3, .int 0)] → W p l e room_1 s m #[Value.ref b] below meth c H locs 141 11384 Q (F0 m 1955 ls [])) : W p l e room_1 s m #[Value.ref b] below meth c H locs 141 11384 Q (F0 m 743 ls []) := by
  have hx := X.1
  have hb := X.2.1
  have hml := X.2.2.1
  have hown := X.2.2.2.1
  have hts := X.2.2.2.2.1
  refine lv_aload_n hx hb dL_law_743 rfl (lv_at hl 2 rfl) ?_
  refine lv_aload_n hx hb dL_law_744 rfl (lv_at hl 3 rfl) ?_
  refine lv_iload_n hx hb dL_law_745 rfl (lv_at hl 0 rfl) ?_
  refine lv_iconst (v := 1) hx hb dL_law_746 (by decide) ?_
  refine lv_iadd hx hb dL_law_747 ?_
  refine lv_topk (v := 1) (by decide) ?_
  refine va_sld hx hb hX hbl hbA hS (by unfold vp_in; decide) dL_law_748 ?_
  refine lv_topk (v := scr 1) rfl ?_
  refine lv_aload_n hx hb dL_law_749 rfl (lv_at hl 3 rfl) ?_
  refine lv_iload_n hx hb dL_law_750 rfl (lv_at hl 0 rfl) ?_
  refine lv_iconst (v := 2) hx hb dL_law_751 (by decide) ?_
  refine lv_iadd hx hb dL_law_752 ?_
  refine lv_topk (v := 2) (by decide) ?_
  refine va_sld hx hb hX hbl hbA hS (by unfold vp_in; decide) dL_law_753 ?_
  refine lv_topk (v := scr 2) rfl ?_
  refine lv_aload_n hx hb dL_law_754 rfl (lv_at hl 3 rfl) ?_
  refine lv_iload_n hx hb dL_law_755 rfl (lv_at hl 0 rfl) ?_
  refine lv_iconst (v := 3) hx hb dL_law_756 (by decide) ?_
  refine lv_iadd hx hb dL_law_757 ?_
  refine lv_topk (v := 3) (by decide) ?_
  refine va_sld hx hb hX hbl hbA hS (by unfold vp_in; decide) dL_law_758 ?_
  refine lv_topk (v := scr 3) rfl ?_
  refine lv_if_eq (tgt := 766) hx hb dL_law_759 (by decide) (fun c_1 => ?_) (fun c_1 => ?_)
  ·
    refine lv_iconst (v := 0) hx hb dL_law_766 (by decide) ?_
    refine lv_aload_n hx hb dL_law_767 rfl (lv_at hl 3 rfl) ?_
    refine lv_iload_n hx hb dL_law_768 rfl (lv_at hl 0 rfl) ?_
    refine lv_iconst (v := 4) hx hb dL_law_769 (by decide) ?_
    refine lv_iadd hx hb dL_law_770 ?_
    refine lv_topk (v := 4) (by decide) ?_
    refine va_sld hx hb hX hbl hbA hS (by unfold vp_in; decide) dL_law_771 ?_
    refine lv_topk (v := scr 4) rfl ?_
    refine kVi (As := [.int (scr 1), .int (scr 2), .int 0, .int (scr 4)]) (rest := []) (wr := [(m0, .inr (12, [.int 0, .ref m0a1, .int 0, .long 0, .int 0, .ref m0a5, .ref m0a6, .ref m0a7, .ref m0a8, .ref m0a9, .int 0, .ref m0a11, .ref m0a12, .ref m0a13, .ref m0a14, .ref m0a15, .ref m0a16, .int 0, .ref m0a18, .ref m0a19, .ref m0a20, .ref m0a21, .ref m0a22, .int 0, .ref m0a24, .ref m0a25, .ref m0a26, .int 0, .ref m0a28, .ref m0a29, .ref m0a30, .ref m0a31, .int 0, .ref m0a33, .ref m0a34, .ref m0a35, .ref m0a36, .ref m0a37, .ref m0a38, .ref m0a39, .ref m0a40, .ref m0a41, .ref m0a42, .ref m0a43, .ref m0a44, .ref m0a45, .ref m0a46, .ref m0a47, .int 0, .ref m0a49, .ref m0a50, .ref m0a51, .int 0, .ref m0a53, .ref m0a54, .ref m0a55, .ref m0a56, .ref m0a57, .ref m0a58, .ref m0a59, .ref m0a60, .ref m0a61, .ref m0a62, .ref m0a63, .long 0, .int 0, .int (-9), .ref m0a67, .ref m0a68, .ref m0a69, .ref m0a70, .ref m0a71, .ref m0a72, .ref m0a73, .ref m0a74, .ref m0a75, .long 0])), (m0a28, .inl (cI g, 40, .inl (fun _ => 0))), (m0a29, .inl (cI g, 40, .inl (fun _ => 0))), (m0a30, .inl (cZ g, 40, .inl (fun _ => 0))), (m0a31, .inl (cI g, 40, .inl (fun _ => 0)))]) X (c_X11_person l g x0 (scr 1) (scr 2) 0 (scr 4) xr xt xg xb xp xu xm xd xw xh xa xs xf xba0 xba1 xba2 xba3 xba4 xba5 xba6 xba7 xba8 xba9 xba10 xba11 xpa0 xpa1 xpa2 xpa3) ok_X11_person okv_X11_person q_699 rfl hK hP hD hS hA hZ hl.1 [0, 1, 2, 3, 4, 5, 6] [7, 8, 9, 10, 11] rfl rfl rfl rfl rfl 0 11 rfl rfl rfl (Nat.le_of_ble_eq_true rfl) ⟨Nat.le_of_ble_eq_true rfl, Nat.le_of_ble_eq_true rfl⟩ dL_law_772 ⟨Nat.le_of_ble_eq_true rfl, Nat.le_of_ble_eq_true rfl⟩ (fun r_2 w1 H locs hw_3 hP hD hS => ?_)
    have hP := pSub hP (ws' := [(m0, .inr (12, [.int 0, .ref m0a1, .int 0, .long 0, .int 0, .ref m0a5, .ref m0a6, .ref m0a7, .ref m0a8, .ref m0a9, .int 0, .ref m0a11, .ref m0a12, .ref m0a13, .ref m0a14, .ref m0a15, .ref m0a16, .int 0, .ref m0a18, .ref m0a19, .ref m0a20, .ref m0a21, .ref m0a22, .int 0, .ref m0a24, .ref m0a25, .ref m0a26, .int 0, .ref m0a28, .ref m0a29, .ref m0a30, .ref m0a31, .int 0, .ref m0a33, .ref m0a34, .ref m0a35, .ref m0a36, .ref m0a37, .ref m0a38, .ref m0a39, .ref m0a40, .ref m0a41, .ref m0a42, .ref m0a43, .ref m0a44, .ref m0a45, .ref m0a46, .ref m0a47, .int 0, .ref m0a49, .ref m0a50, .ref m0a51, .int 0, .ref m0a53, .ref m0a54, .ref m0a55, .ref m0a56, .ref m0a57, .ref m0a58, .ref m0a59, .ref m0a60, .ref m0a61, .ref m0a62, .ref m0a63, .long 0, .int 0, .int (-9), .ref m0a67, .ref m0a68, .ref m0a69, .ref m0a70, .ref m0a71, .ref m0a72, .ref m0a73, .ref m0a74, .ref m0a75, .long 0])), (m0a28, .inl (cI g, 40, .inl (fun _ => 0))), (m0a29, .inl (cI g, 40, .inl (fun _ => 0))), (m0a30, .inl (cZ g, 40, .inl (fun _ => 0))), (m0a31, .inl (cI g, 40, .inl (fun _ => 0)))]) [0, 1, 2, 3, 4] rfl
    have hD := hD.sub (ws' := [(m0, .inr (12, [.int 0, .ref m0a1, .int 0, .long 0, .int 0, .ref m0a5, .ref m0a6, .ref m0a7, .ref m0a8, .ref m0a9, .int 0, .ref m0a11, .ref m0a12, .ref m0a13, .ref m0a14, .ref m0a15, .ref m0a16, .int 0, .ref m0a18, .ref m0a19, .ref m0a20, .ref m0a21, .ref m0a22, .int 0, .ref m0a24, .ref m0a25, .ref m0a26, .int 0, .ref m0a28, .ref m0a29, .ref m0a30, .ref m0a31, .int 0, .ref m0a33, .ref m0a34, .ref m0a35, .ref m0a36, .ref m0a37, .ref m0a38, .ref m0a39, .ref m0a40, .ref m0a41, .ref m0a42, .ref m0a43, .ref m0a44, .ref m0a45, .ref m0a46, .ref m0a47, .int 0, .ref m0a49, .ref m0a50, .ref m0a51, .int 0, .ref m0a53, .ref m0a54, .ref m0a55, .ref m0a56, .ref m0a57, .ref m0a58, .ref m0a59, .ref m0a60, .ref m0a61, .ref m0a62, .ref m0a63, .long 0, .int 0, .int (-9), .ref m0a67, .ref m0a68, .ref m0a69, .ref m0a70, .ref m0a71, .ref m0a72, .ref m0a73, .ref m0a74, .ref m0a75, .long 0])), (m0a28, .inl (cI g, 40, .inl (fun _ => 0))), (m0a29, .inl (cI g, 40, .inl (fun _ => 0))), (m0a30, .inl (cZ g, 40, .inl (fun _ => 0))), (m0a31, .inl (cI g, 40, .inl (fun _ => 0)))]) [0, 1, 2, 3, 4] rfl rfl
    refine lv_aload_n hx hb dL_law_775 rfl (lv_at hl 1 rfl) ?_
    refine lv_aload_n hx hb dL_law_776 rfl (lv_at hl 3 rfl) ?_
    refine lv_iload_n hx hb dL_law_777 rfl (lv_at hl 0 rfl) ?_
    refine lv_iconst (v := 1) hx hb dL_law_778 (by decide) ?_
    refine lv_iadd hx hb dL_law_779 ?_
    refine lv_topk (v := 1) (by decide) ?_
    refine va_sld hx hb hX hbl hbA hS (by unfold vp_in; decide) dL_law_780 ?_
    refine lv_topk (v := scr 1) rfl ?_
    refine lv_aload_n hx hb dL_law_781 rfl (lv_at hl 3 rfl) ?_
    refine lv_iload_n hx hb dL_law_782 rfl (lv_at hl 0 rfl) ?_
    refine lv_iconst (v := 2) hx hb dL_law_783 (by decide) ?_
    refine lv_iadd hx hb dL_law_784 ?_
    refine lv_topk (v := 2) (by decide) ?_
    refine va_sld hx hb hX hbl hbA hS (by unfold vp_in; decide) dL_law_785 ?_
    refine lv_topk (v := scr 2) rfl ?_
    refine lv_aload_n hx hb dL_law_786 rfl (lv_at hl 3 rfl) ?_
    refine lv_iload_n hx hb dL_law_787 rfl (lv_at hl 0 rfl) ?_
    refine lv_iconst (v := 3) hx hb dL_law_788 (by decide) ?_
    refine lv_iadd hx hb dL_law_789 ?_
    refine lv_topk (v := 3) (by decide) ?_
    refine va_sld hx hb hX hbl hbA hS (by unfold vp_in; decide) dL_law_790 ?_
    refine lv_topk (v := scr 3) rfl ?_
    refine lv_if_eq (tgt := 798) hx hb dL_law_791 (by decide) (fun _ => ?_) (fun c_4 => (by simp only [i32lt, i32le, i32eq, Int32.reduceToInt] at c_1 c_4; omega : False).elim)
    refine lv_iconst (v := 0) hx hb dL_law_798 (by decide) ?_
    refine lv_aload_n hx hb dL_law_799 rfl (lv_at hl 3 rfl) ?_
    refine lv_iload_n hx hb dL_law_800 rfl (lv_at hl 0 rfl) ?_
    refine lv_iconst (v := 4) hx hb dL_law_801 (by decide) ?_
    refine lv_iadd hx hb dL_law_802 ?_
    refine lv_topk (v := 4) (by decide) ?_
    refine va_sld hx hb hX hbl hbA hS (by unfold vp_in; decide) dL_law_803 ?_
    refine lv_topk (v := scr 4) rfl ?_
    refine kVi (As := [.int (scr 1), .int (scr 2), .int 0, .int (scr 4)]) (rest := [.int r_2]) (wr := []) X (c_X12_person l g m0 (scr 1) (scr 2) 0 (scr 4) m0a1 m0a5 m0a6 m0a7 m0a8 m0a9 m0a11 m0a12 m0a13 m0a14 m0a15 m0a16 m0a18 m0a19 m0a20 m0a21 m0a22 m0a24 m0a25 m0a26 m0a28 m0a29 m0a30 m0a31 m0a33 m0a34 m0a35 m0a36 m0a37 m0a38 m0a39 m0a40 m0a41 m0a42 m0a43 m0a44 m0a45 m0a46 m0a47 m0a49 m0a50 m0a51 m0a53 m0a54 m0a55 m0a56 m0a57 m0a58 m0a59 m0a60 m0a61 m0a62 m0a63 m0a67 m0a68 m0a69 m0a70 m0a71 m0a72 m0a73 m0a74 m0a75) ok_X12_person okv_X12_person q_1839 rfl hK hP hD hS hA hZ hl.1 [0, 1, 2, 3, 4] [] rfl rfl rfl rfl rfl 0 12 rfl rfl rfl (Nat.le_of_ble_eq_true rfl) ⟨Nat.le_of_ble_eq_true rfl, Nat.le_of_ble_eq_true rfl⟩ dL_law_804 ⟨Nat.le_of_ble_eq_true rfl, Nat.le_of_ble_eq_true rfl⟩ (fun r_5 w1 H locs hw_6 hP hD hS => ?_)
    have hP := pSub hP (ws' := []) [] rfl
    have hD := hD.sub (ws' := []) [] rfl rfl
    refine lv_icmp_eq (tgt := 1955) hx hb dL_law_807 (by decide) (fun _ => ?_) (fun c => absurd (hw_3.trans ((eq_person g x0 (scr 1) (scr 2) 0 (scr 4) xr xt xg xb xp xu xm xd xw xh xa xs xf xba0 xba1 xba2 xba3 xba4 xba5 xba6 xba7 xba8 xba9 xba10 xba11 xpa0 xpa1 xpa2 xpa3 m0 m0a1 m0a5 m0a6 m0a7 m0a8 m0a9 m0a11 m0a12 m0a13 m0a14 m0a15 m0a16 m0a18 m0a19 m0a20 m0a21 m0a22 m0a24 m0a25 m0a26 m0a28 m0a29 m0a30 m0a31 m0a33 m0a34 m0a35 m0a36 m0a37 m0a38 m0a39 m0a40 m0a41 m0a42 m0a43 m0a44 m0a45 m0a46 m0a47 m0a49 m0a50 m0a51 m0a53 m0a54 m0a55 m0a56 m0a57 m0a58 m0a59 m0a60 m0a61 m0a62 m0a63 m0a67 m0a68 m0a69 m0a70 m0a71 m0a72 m0a73 m0a74 m0a75).trans hw_6.symm)) c)
    exact kend _ _ _ hS (lv_sub hl [3, 0] rfl)
  ·
    refine lv_iconst (v := 1) hx hb dL_law_762 (by decide) ?_
    refine lv_goto (tgt := 767) hx hb dL_law_763 (by decide) ?_
    refine lv_aload_n hx hb dL_law_767 rfl (lv_at hl 3 rfl) ?_
    refine lv_iload_n hx hb dL_law_768 rfl (lv_at hl 0 rfl) ?_
    refine lv_iconst (v := 4) hx hb dL_law_769 (by decide) ?_
    refine lv_iadd hx hb dL_law_770 ?_
    refine lv_topk (v := 4) (by decide) ?_
    refine va_sld hx hb hX hbl hbA hS (by unfold vp_in; decide) dL_law_771 ?_
    refine lv_topk (v := scr 4) rfl ?_
    refine kVi (As := [.int (scr 1), .int (scr 2), .int 1, .int (scr 4)]) (rest := []) (wr := [(m0, .inr (12, [.int 0, .ref m0a1, .int 0, .long 0, .int 0, .ref m0a5, .ref m0a6, .ref m0a7, .ref m0a8, .ref m0a9, .int 0, .ref m0a11, .ref m0a12, .ref m0a13, .ref m0a14, .ref m0a15, .ref m0a16, .int 0, .ref m0a18, .ref m0a19, .ref m0a20, .ref m0a21, .ref m0a22, .int 0, .ref m0a24, .ref m0a25, .ref m0a26, .int 0, .ref m0a28, .ref m0a29, .ref m0a30, .ref m0a31, .int 0, .ref m0a33, .ref m0a34, .ref m0a35, .ref m0a36, .ref m0a37, .ref m0a38, .ref m0a39, .ref m0a40, .ref m0a41, .ref m0a42, .ref m0a43, .ref m0a44, .ref m0a45, .ref m0a46, .ref m0a47, .int 0, .ref m0a49, .ref m0a50, .ref m0a51, .int 0, .ref m0a53, .ref m0a54, .ref m0a55, .ref m0a56, .ref m0a57, .ref m0a58, .ref m0a59, .ref m0a60, .ref m0a61, .ref m0a62, .ref m0a63, .long 0, .int 0, .int (-9), .ref m0a67, .ref m0a68, .ref m0a69, .ref m0a70, .ref m0a71, .ref m0a72, .ref m0a73, .ref m0a74, .ref m0a75, .long 0])), (m0a28, .inl (cI g, 40, .inl (fun _ => 0))), (m0a29, .inl (cI g, 40, .inl (fun _ => 0))), (m0a30, .inl (cZ g, 40, .inl (fun _ => 0))), (m0a31, .inl (cI g, 40, .inl (fun _ => 0)))]) X (c_X11_person l g x0 (scr 1) (scr 2) 1 (scr 4) xr xt xg xb xp xu xm xd xw xh xa xs xf xba0 xba1 xba2 xba3 xba4 xba5 xba6 xba7 xba8 xba9 xba10 xba11 xpa0 xpa1 xpa2 xpa3) ok_X11_person okv_X11_person q_699 rfl hK hP hD hS hA hZ hl.1 [0, 1, 2, 3, 4, 5, 6] [7, 8, 9, 10, 11] rfl rfl rfl rfl rfl 0 11 rfl rfl rfl (Nat.le_of_ble_eq_true rfl) ⟨Nat.le_of_ble_eq_true rfl, Nat.le_of_ble_eq_true rfl⟩ dL_law_772 ⟨Nat.le_of_ble_eq_true rfl, Nat.le_of_ble_eq_true rfl⟩ (fun r_7 w1 H locs hw_8 hP hD hS => ?_)
    have hP := pSub hP (ws' := [(m0, .inr (12, [.int 0, .ref m0a1, .int 0, .long 0, .int 0, .ref m0a5, .ref m0a6, .ref m0a7, .ref m0a8, .ref m0a9, .int 0, .ref m0a11, .ref m0a12, .ref m0a13, .ref m0a14, .ref m0a15, .ref m0a16, .int 0, .ref m0a18, .ref m0a19, .ref m0a20, .ref m0a21, .ref m0a22, .int 0, .ref m0a24, .ref m0a25, .ref m0a26, .int 0, .ref m0a28, .ref m0a29, .ref m0a30, .ref m0a31, .int 0, .ref m0a33, .ref m0a34, .ref m0a35, .ref m0a36, .ref m0a37, .ref m0a38, .ref m0a39, .ref m0a40, .ref m0a41, .ref m0a42, .ref m0a43, .ref m0a44, .ref m0a45, .ref m0a46, .ref m0a47, .int 0, .ref m0a49, .ref m0a50, .ref m0a51, .int 0, .ref m0a53, .ref m0a54, .ref m0a55, .ref m0a56, .ref m0a57, .ref m0a58, .ref m0a59, .ref m0a60, .ref m0a61, .ref m0a62, .ref m0a63, .long 0, .int 0, .int (-9), .ref m0a67, .ref m0a68, .ref m0a69, .ref m0a70, .ref m0a71, .ref m0a72, .ref m0a73, .ref m0a74, .ref m0a75, .long 0])), (m0a28, .inl (cI g, 40, .inl (fun _ => 0))), (m0a29, .inl (cI g, 40, .inl (fun _ => 0))), (m0a30, .inl (cZ g, 40, .inl (fun _ => 0))), (m0a31, .inl (cI g, 40, .inl (fun _ => 0)))]) [0, 1, 2, 3, 4] rfl
    have hD := hD.sub (ws' := [(m0, .inr (12, [.int 0, .ref m0a1, .int 0, .long 0, .int 0, .ref m0a5, .ref m0a6, .ref m0a7, .ref m0a8, .ref m0a9, .int 0, .ref m0a11, .ref m0a12, .ref m0a13, .ref m0a14, .ref m0a15, .ref m0a16, .int 0, .ref m0a18, .ref m0a19, .ref m0a20, .ref m0a21, .ref m0a22, .int 0, .ref m0a24, .ref m0a25, .ref m0a26, .int 0, .ref m0a28, .ref m0a29, .ref m0a30, .ref m0a31, .int 0, .ref m0a33, .ref m0a34, .ref m0a35, .ref m0a36, .ref m0a37, .ref m0a38, .ref m0a39, .ref m0a40, .ref m0a41, .ref m0a42, .ref m0a43, .ref m0a44, .ref m0a45, .ref m0a46, .ref m0a47, .int 0, .ref m0a49, .ref m0a50, .ref m0a51, .int 0, .ref m0a53, .ref m0a54, .ref m0a55, .ref m0a56, .ref m0a57, .ref m0a58, .ref m0a59, .ref m0a60, .ref m0a61, .ref m0a62, .ref m0a63, .long 0, .int 0, .int (-9), .ref m0a67, .ref m0a68, .ref m0a69, .ref m0a70, .ref m0a71, .ref m0a72, .ref m0a73, .ref m0a74, .ref m0a75, .long 0])), (m0a28, .inl (cI g, 40, .inl (fun _ => 0))), (m0a29, .inl (cI g, 40, .inl (fun _ => 0))), (m0a30, .inl (cZ g, 40, .inl (fun _ => 0))), (m0a31, .inl (cI g, 40, .inl (fun _ => 0)))]) [0, 1, 2, 3, 4] rfl rfl
    refine lv_aload_n hx hb dL_law_775 rfl (lv_at hl 1 rfl) ?_
    refine lv_aload_n hx hb dL_law_776 rfl (lv_at hl 3 rfl) ?_
    refine lv_iload_n hx hb dL_law_777 rfl (lv_at hl 0 rfl) ?_
    refine lv_iconst (v := 1) hx hb dL_law_778 (by decide) ?_
    refine lv_iadd hx hb dL_law_779 ?_
    refine lv_topk (v := 1) (by decide) ?_
    refine va_sld hx hb hX hbl hbA hS (by unfold vp_in; decide) dL_law_780 ?_
    refine lv_topk (v := scr 1) rfl ?_
    refine lv_aload_n hx hb dL_law_781 rfl (lv_at hl 3 rfl) ?_
    refine lv_iload_n hx hb dL_law_782 rfl (lv_at hl 0 rfl) ?_
    refine lv_iconst (v := 2) hx hb dL_law_783 (by decide) ?_
    refine lv_iadd hx hb dL_law_784 ?_
    refine lv_topk (v := 2) (by decide) ?_
    refine va_sld hx hb hX hbl hbA hS (by unfold vp_in; decide) dL_law_785 ?_
    refine lv_topk (v := scr 2) rfl ?_
    refine lv_aload_n hx hb dL_law_786 rfl (lv_at hl 3 rfl) ?_
    refine lv_iload_n hx hb dL_law_787 rfl (lv_at hl 0 rfl) ?_
    refine lv_iconst (v := 3) hx hb dL_law_788 (by decide) ?_
    refine lv_iadd hx hb dL_law_789 ?_
    refine lv_topk (v := 3) (by decide) ?_
    refine va_sld hx hb hX hbl hbA hS (by unfold vp_in; decide) dL_law_790 ?_
    refine lv_topk (v := scr 3) rfl ?_
    refine lv_if_eq (tgt := 798) hx hb dL_law_791 (by decide) (fun c_9 => (by simp only [i32lt, i32le, i32eq, Int32.reduceToInt] at c_1 c_9; omega : False).elim) (fun _ => ?_)
    refine lv_iconst (v := 1) hx hb dL_law_794 (by decide) ?_
    refine lv_goto (tgt := 799) hx hb dL_law_795 (by decide) ?_
    refine lv_aload_n hx hb dL_law_799 rfl (lv_at hl 3 rfl) ?_
    refine lv_iload_n hx hb dL_law_800 rfl (lv_at hl 0 rfl) ?_
    refine lv_iconst (v := 4) hx hb dL_law_801 (by decide) ?_
    refine lv_iadd hx hb dL_law_802 ?_
    refine lv_topk (v := 4) (by decide) ?_
    refine va_sld hx hb hX hbl hbA hS (by unfold vp_in; decide) dL_law_803 ?_
    refine lv_topk (v := scr 4) rfl ?_
    refine kVi (As := [.int (scr 1), .int (scr 2), .int 1, .int (scr 4)]) (rest := [.int r_7]) (wr := []) X (c_X12_person l g m0 (scr 1) (scr 2) 1 (scr 4) m0a1 m0a5 m0a6 m0a7 m0a8 m0a9 m0a11 m0a12 m0a13 m0a14 m0a15 m0a16 m0a18 m0a19 m0a20 m0a21 m0a22 m0a24 m0a25 m0a26 m0a28 m0a29 m0a30 m0a31 m0a33 m0a34 m0a35 m0a36 m0a37 m0a38 m0a39 m0a40 m0a41 m0a42 m0a43 m0a44 m0a45 m0a46 m0a47 m0a49 m0a50 m0a51 m0a53 m0a54 m0a55 m0a56 m0a57 m0a58 m0a59 m0a60 m0a61 m0a62 m0a63 m0a67 m0a68 m0a69 m0a70 m0a71 m0a72 m0a73 m0a74 m0a75) ok_X12_person okv_X12_person q_1839 rfl hK hP hD hS hA hZ hl.1 [0, 1, 2, 3, 4] [] rfl rfl rfl rfl rfl 0 12 rfl rfl rfl (Nat.le_of_ble_eq_true rfl) ⟨Nat.le_of_ble_eq_true rfl, Nat.le_of_ble_eq_true rfl⟩ dL_law_804 ⟨Nat.le_of_ble_eq_true rfl, Nat.le_of_ble_eq_true rfl⟩ (fun r_10 w1 H locs hw_11 hP hD hS => ?_)
    have hP := pSub hP (ws' := []) [] rfl
    have hD := hD.sub (ws' := []) [] rfl rfl
    refine lv_icmp_eq (tgt := 1955) hx hb dL_law_807 (by decide) (fun _ => ?_) (fun c => absurd (hw_8.trans ((eq_person g x0 (scr 1) (scr 2) 1 (scr 4) xr xt xg xb xp xu xm xd xw xh xa xs xf xba0 xba1 xba2 xba3 xba4 xba5 xba6 xba7 xba8 xba9 xba10 xba11 xpa0 xpa1 xpa2 xpa3 m0 m0a1 m0a5 m0a6 m0a7 m0a8 m0a9 m0a11 m0a12 m0a13 m0a14 m0a15 m0a16 m0a18 m0a19 m0a20 m0a21 m0a22 m0a24 m0a25 m0a26 m0a28 m0a29 m0a30 m0a31 m0a33 m0a34 m0a35 m0a36 m0a37 m0a38 m0a39 m0a40 m0a41 m0a42 m0a43 m0a44 m0a45 m0a46 m0a47 m0a49 m0a50 m0a51 m0a53 m0a54 m0a55 m0a56 m0a57 m0a58 m0a59 m0a60 m0a61 m0a62 m0a63 m0a67 m0a68 m0a69 m0a70 m0a71 m0a72 m0a73 m0a74 m0a75).trans hw_11.symm)) c)
    exact kend _ _ _ hS (lv_sub hl [3, 0] rfl)
set_option maxHeartbeats 4000000 in
set_option maxRecDepth 100000 in
theorem law_53 (l : Launch) (g : GG) {p : Program} {e : Env} {s : State} {m : MethodId} {below : List Frame} {meth : Method} {c : Code} {b : Nat} {scr : Nat → Int32} (X : En p s m #[Value.ref b] meth c cL_law 4 ret R_law meth.name) (hK : va_K g.1 classes (tyG g) s) (hA : ∀ q, s.heap.size ≤ q → laA s q) (hZ : stS g (laA s) s s.heap) (hX : va_X b 6 scr s s.heap) (hbl : b < s.heap.size) (hbA : ¬ laA s b) (x0 : Nat) (xr : Nat) (xt : Nat) (xg : Nat) (xb : Nat) (xp : Nat) (xu : Nat) (xm : Nat) (xd : Nat) (xw : Nat) (xh : Nat) (xa : Nat) (xs : Nat) (xf : Nat) (xrs : Nat) (xrp : Nat) (xts : Nat) (xtp : Nat) (xgs : Nat) (xgh : Nat) (xba0 : Nat) (xba1 : Nat) (xba2 : Nat) (xba3 : Nat) (xba4 : Nat) (xba5 : Nat) (xba6 : Nat) (xba7 : Nat) (xba8 : Nat) (xba9 : Nat) (xba10 : Nat) (xba11 : Nat) (xpa0 : Nat) (xpa1 : Nat) (xpa2 : Nat) (xpa3 : Nat) (xua0 : Nat) (xua1 : Nat) (xua2 : Nat) (xma0 : Nat) (xma1 : Nat) (xma2 : Nat) (xma3 : Nat) (xma4 : Nat) (xma5 : Nat) (xma6 : Nat) (xma7 : Nat) (xma8 : Nat) (xma9 : Nat) (xma10 : Nat) (xma11 : Nat) (xma12 : Nat) (xda0 : Nat) (xda1 : Nat) (xda2 : Nat) (xda3 : Nat) (xda4 : Nat) (xda5 : Nat) (m0 : Nat) (m0a1 : Nat) (m0a5 : Nat) (m0a6 : Nat) (m0a7 : Nat) (m0a8 : Nat) (m0a9 : Nat) (m0a11 : Nat) (m0a12 : Nat) (m0a13 : Nat) (m0a14 : Nat) (m0a15 : Nat) (m0a16 : Nat) (m0a18 : Nat) (m0a19 : Nat) (m0a20 : Nat) (m0a21 : Nat) (m0a22 : Nat) (m0a24 : Nat) (m0a25 : Nat) (m0a26 : Nat) (m0a28 : Nat) (m0a29 : Nat) (m0a30 : Nat) (m0a31 : Nat) (m0a33 : Nat) (m0a34 : Nat) (m0a35 : Nat) (m0a36 : Nat) (m0a37 : Nat) (m0a38 : Nat) (m0a39 : Nat) (m0a40 : Nat) (m0a41 : Nat) (m0a42 : Nat) (m0a43 : Nat) (m0a44 : Nat) (m0a45 : Nat) (m0a46 : Nat) (m0a47 : Nat) (m0a49 : Nat) (m0a50 : Nat) (m0a51 : Nat) (m0a53 : Nat) (m0a54 : Nat) (m0a55 : Nat) (m0a56 : Nat) (m0a57 : Nat) (m0a58 : Nat) (m0a59 : Nat) (m0a60 : Nat) (m0a61 : Nat) (m0a62 : Nat) (m0a63 : Nat) (m0a67 : Nat) (m0a68 : Nat) (m0a69 : Nat) (m0a70 : Nat) (m0a71 : Nat) (m0a72 : Nat) (m0a73 : Nat) (m0a74 : Nat) (m0a75 : Nat) {H : Heap} {locs : List Loc} {ls : Array Slot} (hP : va_P g.1 classes [(x0, .inr (11, [.ref xr, .ref xt, .ref xg, .ref xb, .ref xp, .ref xu, .ref xm, .ref xd, .ref xw, .ref xh, .ref xa, .ref xs, .ref xf, .int 0, .int 0, .long 0, .long 0, .int 0])), (xr, .inr (8, [.int 6, .int 0, .ref xrs, .ref xrp])), (xrs, .inl (cI g, 6, .inl (fun _ => (-1)))), (xt, .inr (8, [.int 4, .int 32, .ref xts, .ref xtp])), (xts, .inl (cI g, 6, .inl (fun _ => (-1)))), (xg, .inr (3, [.ref xgs, .ref xgh])), (xgs, .inl (cI g, 64, .inl (fun _ => 0))), (xgh, .inl (cI g, 64, .inl (fun _ => 0))), (xb, .inr (1, [.ref xba0, .ref xba1, .ref xba2, .ref xba3, .ref xba4, .ref xba5, .ref xba6, .ref xba7, .ref xba8, .ref xba9, .ref xba10, .ref xba11, .int 0, .int 0])), (xp, .inr (5, [.ref xpa0, .ref xpa1, .ref xpa2, .ref xpa3, .int 0])), (xu, .inr (7, [.ref xua0, .ref xua1, .ref xua2, .int 0])), (xm, .inr (4, [.ref xma0, .ref xma1, .ref xma2, .ref xma3, .ref xma4, .ref xma5, .ref xma6, .ref xma7, .ref xma8, .ref xma9, .ref xma10, .ref xma11, .ref xma12, .int 0])), (xd, .inr (2, [.ref xda0, .ref xda1, .ref xda2, .ref xda3, .ref xda4, .ref xda5, .int 0, .int 0])), (m0, .inr (12, [.int 0, .ref m0a1, .int 0, .long 0, .int 0, .ref m0a5, .ref m0a6, .ref m0a7, .ref m0a8, .ref m0a9, .int 0, .ref m0a11, .ref m0a12, .ref m0a13, .ref m0a14, .ref m0a15, .ref m0a16, .int 0, .ref m0a18, .ref m0a19, .ref m0a20, .ref m0a21, .ref m0a22, .int 0, .ref m0a24, .ref m0a25, .ref m0a26, .int 0, .ref m0a28, .ref m0a29, .ref m0a30, .ref m0a31, .int 0, .ref m0a33, .ref m0a34, .ref m0a35, .ref m0a36, .ref m0a37, .ref m0a38, .ref m0a39, .ref m0a40, .ref m0a41, .ref m0a42, .ref m0a43, .ref m0a44, .ref m0a45, .ref m0a46, .ref m0a47, .int 0, .ref m0a49, .ref m0a50, .ref m0a51, .int 0, .ref m0a53, .ref m0a54, .ref m0a55, .ref m0a56, .ref m0a57, .ref m0a58, .ref m0a59, .ref m0a60, .ref m0a61, .ref m0a62, .ref m0a63, .long 0, .int 0, .int (-9), .ref m0a67, .ref m0a68, .ref m0a69, .ref m0a70, .ref m0a71, .ref m0a72, .ref m0a73, .ref m0a74, .ref m0a75, .long 0])), (m0a5, .inl (cI g, 6, .inl (fun _ => (-9)))), (m0a8, .inl (cI g, 4, .inl (fun _ => (-9)))), (m0a15, .inl (cI g, 64, .inl (fun _ => 0))), (m0a16, .inl (cI g, 64, .inl (fun _ => 0)))] H) (hD : va_D (laA s) [(x0, .inr (11, [.ref xr, .ref xt, .ref xg, .ref xb, .ref xp, .ref xu, .ref xm, .ref xd, .ref xw, .ref xh, .ref xa, .ref xs, .ref xf, .int 0, .int 0, .long 0, .long 0, .int 0])), (xr, .inr (8, [.int 6, .int 0, .ref xrs, .ref xrp])), (xrs, .inl (cI g, 6, .inl (fun _ => (-1)))), (xt, .inr (8, [.int 4, .int 32, .ref xts, .ref xtp])), (xts, .inl (cI g, 6, .inl (fun _ => (-1)))), (xg, .inr (3, [.ref xgs, .ref xgh])), (xgs, .inl (cI g, 64, .inl (fun _ => 0))), (xgh, .inl (cI g, 64, .inl (fun _ => 0))), (xb, .inr (1, [.ref xba0, .ref xba1, .ref xba2, .ref xba3, .ref xba4, .ref xba5, .ref xba6, .ref xba7, .ref xba8, .ref xba9, .ref xba10, .ref xba11, .int 0, .int 0])), (xp, .inr (5, [.ref xpa0, .ref xpa1, .ref xpa2, .ref xpa3, .int 0])), (xu, .inr (7, [.ref xua0, .ref xua1, .ref xua2, .int 0])), (xm, .inr (4, [.ref xma0, .ref xma1, .ref xma2, .ref xma3, .ref xma4, .ref xma5, .ref xma6, .ref xma7, .ref xma8, .ref xma9, .ref xma10, .ref xma11, .ref xma12, .int 0])), (xd, .inr (2, [.ref xda0, .ref xda1, .ref xda2, .ref xda3, .ref xda4, .ref xda5, .int 0, .int 0])), (m0, .inr (12, [.int 0, .ref m0a1, .int 0, .long 0, .int 0, .ref m0a5, .ref m0a6, .ref m0a7, .ref m0a8, .ref m0a9, .int 0, .ref m0a11, .ref m0a12, .ref m0a13, .ref m0a14, .ref m0a15, .ref m0a16, .int 0, .ref m0a18, .ref m0a19, .ref m0a20, .ref m0a21, .ref m0a22, .int 0, .ref m0a24, .ref m0a25, .ref m0a26, .int 0, .ref m0a28, .ref m0a29, .ref m0a30, .ref m0a31, .int 0, .ref m0a33, .ref m0a34, .ref m0a35, .ref m0a36, .ref m0a37, .ref m0a38, .ref m0a39, .ref m0a40, .ref m0a41, .ref m0a42, .ref m0a43, .ref m0a44, .ref m0a45, .ref m0a46, .ref m0a47, .int 0, .ref m0a49, .ref m0a50, .ref m0a51, .int 0, .ref m0a53, .ref m0a54, .ref m0a55, .ref m0a56, .ref m0a57, .ref m0a58, .ref m0a59, .ref m0a60, .ref m0a61, .ref m0a62, .ref m0a63, .long 0, .int 0, .int (-9), .ref m0a67, .ref m0a68, .ref m0a69, .ref m0a70, .ref m0a71, .ref m0a72, .ref m0a73, .ref m0a74, .ref m0a75, .long 0])), (m0a5, .inl (cI g, 6, .inl (fun _ => (-9)))), (m0a8, .inl (cI g, 4, .inl (fun _ => (-9)))), (m0a15, .inl (cI g, 64, .inl (fun _ => 0))), (m0a16, .inl (cI g, 64, .inl (fun _ => 0)))]) (hS : va_S (laA s) s.heap H locs) (hl : lv_has ls 4 [(3, .int 0), (2, .ref m0), (1, .ref x0), (0, .ref b)]) {Q : State → Prop} (kend : ∀ (H : Heap) (locs : List Loc) (ls : Array Slot), va_S (laA s) s.heap H locs → lv_has ls 4 [(0, .ref b), (3, .int 0)] → W p l e room_1 s m #[Value.ref b] below meth c H locs 141 11384 Q (F0 m 1955 ls [])) : W p l e room_1 s m #[Value.ref b] below meth c H locs 141 11384 Q (F0 m 1941 ls []) := by
  have hx := X.1
  have hb := X.2.1
  have hml := X.2.2.1
  have hown := X.2.2.2.1
  have hts := X.2.2.2.2.1
  refine lv_aload_n hx hb dL_law_1941 rfl (lv_at hl 2 rfl) ?_
  refine kVl (As := []) (rest := []) (wr := [(m0, .inr (12, [.int 0, .ref m0a1, .int 0, .long 0, .int 0, .ref m0a5, .ref m0a6, .ref m0a7, .ref m0a8, .ref m0a9, .int 0, .ref m0a11, .ref m0a12, .ref m0a13, .ref m0a14, .ref m0a15, .ref m0a16, .int 0, .ref m0a18, .ref m0a19, .ref m0a20, .ref m0a21, .ref m0a22, .int 0, .ref m0a24, .ref m0a25, .ref m0a26, .int 0, .ref m0a28, .ref m0a29, .ref m0a30, .ref m0a31, .int 0, .ref m0a33, .ref m0a34, .ref m0a35, .ref m0a36, .ref m0a37, .ref m0a38, .ref m0a39, .ref m0a40, .ref m0a41, .ref m0a42, .ref m0a43, .ref m0a44, .ref m0a45, .ref m0a46, .ref m0a47, .int 0, .ref m0a49, .ref m0a50, .ref m0a51, .int 0, .ref m0a53, .ref m0a54, .ref m0a55, .ref m0a56, .ref m0a57, .ref m0a58, .ref m0a59, .ref m0a60, .ref m0a61, .ref m0a62, .ref m0a63, .long 0, .int 0, .int (-9), .ref m0a67, .ref m0a68, .ref m0a69, .ref m0a70, .ref m0a71, .ref m0a72, .ref m0a73, .ref m0a74, .ref m0a75, .long 0])), (m0a5, .inl (cI g, 6, .inl (fun _ => (-9)))), (m0a8, .inl (cI g, 4, .inl (fun _ => (-9)))), (m0a15, .inl (cI g, 64, .inl (fun _ => 0))), (m0a16, .inl (cI g, 64, .inl (fun _ => 0)))]) X (c_X11_digest l g x0 xr xt xg xb xp xu xm xd xw xh xa xs xf xrs xrp xts xtp xgs xgh xba0 xba1 xba2 xba3 xba4 xba5 xba6 xba7 xba8 xba9 xba10 xba11 xpa0 xpa1 xpa2 xpa3 xua0 xua1 xua2 xma0 xma1 xma2 xma3 xma4 xma5 xma6 xma7 xma8 xma9 xma10 xma11 xma12 xda0 xda1 xda2 xda3 xda4 xda5) ok_X11_digest okv_X11_digest q_1418 rfl hK hP hD hS hA hZ hl.1 [0, 1, 2, 3, 4, 5, 6, 7, 8, 9, 10, 11, 12] [13, 14, 15, 16, 17] rfl rfl rfl rfl rfl 0 11 rfl rfl rfl (Nat.le_of_ble_eq_true rfl) ⟨Nat.le_of_ble_eq_true rfl, Nat.le_of_ble_eq_true rfl⟩ dL_law_1942 ⟨Nat.le_of_ble_eq_true rfl, Nat.le_of_ble_eq_true rfl⟩ (fun r_1 w1 H locs hw_2 hP hD hS => ?_)
  have hP := pSub hP (ws' := [(m0, .inr (12, [.int 0, .ref m0a1, .int 0, .long 0, .int 0, .ref m0a5, .ref m0a6, .ref m0a7, .ref m0a8, .ref m0a9, .int 0, .ref m0a11, .ref m0a12, .ref m0a13, .ref m0a14, .ref m0a15, .ref m0a16, .int 0, .ref m0a18, .ref m0a19, .ref m0a20, .ref m0a21, .ref m0a22, .int 0, .ref m0a24, .ref m0a25, .ref m0a26, .int 0, .ref m0a28, .ref m0a29, .ref m0a30, .ref m0a31, .int 0, .ref m0a33, .ref m0a34, .ref m0a35, .ref m0a36, .ref m0a37, .ref m0a38, .ref m0a39, .ref m0a40, .ref m0a41, .ref m0a42, .ref m0a43, .ref m0a44, .ref m0a45, .ref m0a46, .ref m0a47, .int 0, .ref m0a49, .ref m0a50, .ref m0a51, .int 0, .ref m0a53, .ref m0a54, .ref m0a55, .ref m0a56, .ref m0a57, .ref m0a58, .ref m0a59, .ref m0a60, .ref m0a61, .ref m0a62, .ref m0a63, .long 0, .int 0, .int (-9), .ref m0a67, .ref m0a68, .ref m0a69, .ref m0a70, .ref m0a71, .ref m0a72, .ref m0a73, .ref m0a74, .ref m0a75, .long 0])), (m0a5, .inl (cI g, 6, .inl (fun _ => (-9)))), (m0a8, .inl (cI g, 4, .inl (fun _ => (-9)))), (m0a15, .inl (cI g, 64, .inl (fun _ => 0))), (m0a16, .inl (cI g, 64, .inl (fun _ => 0)))]) [0, 1, 2, 3, 4] rfl
  have hD := hD.sub (ws' := [(m0, .inr (12, [.int 0, .ref m0a1, .int 0, .long 0, .int 0, .ref m0a5, .ref m0a6, .ref m0a7, .ref m0a8, .ref m0a9, .int 0, .ref m0a11, .ref m0a12, .ref m0a13, .ref m0a14, .ref m0a15, .ref m0a16, .int 0, .ref m0a18, .ref m0a19, .ref m0a20, .ref m0a21, .ref m0a22, .int 0, .ref m0a24, .ref m0a25, .ref m0a26, .int 0, .ref m0a28, .ref m0a29, .ref m0a30, .ref m0a31, .int 0, .ref m0a33, .ref m0a34, .ref m0a35, .ref m0a36, .ref m0a37, .ref m0a38, .ref m0a39, .ref m0a40, .ref m0a41, .ref m0a42, .ref m0a43, .ref m0a44, .ref m0a45, .ref m0a46, .ref m0a47, .int 0, .ref m0a49, .ref m0a50, .ref m0a51, .int 0, .ref m0a53, .ref m0a54, .ref m0a55, .ref m0a56, .ref m0a57, .ref m0a58, .ref m0a59, .ref m0a60, .ref m0a61, .ref m0a62, .ref m0a63, .long 0, .int 0, .int (-9), .ref m0a67, .ref m0a68, .ref m0a69, .ref m0a70, .ref m0a71, .ref m0a72, .ref m0a73, .ref m0a74, .ref m0a75, .long 0])), (m0a5, .inl (cI g, 6, .inl (fun _ => (-9)))), (m0a8, .inl (cI g, 4, .inl (fun _ => (-9)))), (m0a15, .inl (cI g, 64, .inl (fun _ => 0))), (m0a16, .inl (cI g, 64, .inl (fun _ => 0)))]) [0, 1, 2, 3, 4] rfl rfl
  refine lv_aload_n hx hb dL_law_1945 rfl (lv_at hl 1 rfl) ?_
  refine kVl (As := []) (rest := [.long r_1]) (wr := []) X (c_X12_digest l g m0 m0a1 m0a5 m0a6 m0a7 m0a8 m0a9 m0a11 m0a12 m0a13 m0a14 m0a15 m0a16 m0a18 m0a19 m0a20 m0a21 m0a22 m0a24 m0a25 m0a26 m0a28 m0a29 m0a30 m0a31 m0a33 m0a34 m0a35 m0a36 m0a37 m0a38 m0a39 m0a40 m0a41 m0a42 m0a43 m0a44 m0a45 m0a46 m0a47 m0a49 m0a50 m0a51 m0a53 m0a54 m0a55 m0a56 m0a57 m0a58 m0a59 m0a60 m0a61 m0a62 m0a63 m0a67 m0a68 m0a69 m0a70 m0a71 m0a72 m0a73 m0a74 m0a75) ok_X12_digest okv_X12_digest q_2146 rfl hK hP hD hS hA hZ hl.1 [0, 1, 2, 3, 4] [] rfl rfl rfl rfl rfl 0 12 rfl rfl rfl (Nat.le_of_ble_eq_true rfl) ⟨Nat.le_of_ble_eq_true rfl, Nat.le_of_ble_eq_true rfl⟩ dL_law_1946 ⟨Nat.le_of_ble_eq_true rfl, Nat.le_of_ble_eq_true rfl⟩ (fun r_3 w1 H locs hw_4 hP hD hS => ?_)
  have hP := pSub hP (ws' := []) [] rfl
  have hD := hD.sub (ws' := []) [] rfl rfl
  refine W.lcmp hx hb dL_law_1949 ?_
  refine lv_topk (v := 0) (by rw [hw_2, hw_4, eq_digest g x0 xr xt xg xb xp xu xm xd xw xh xa xs xf xrs xrp xts xtp xgs xgh xba0 xba1 xba2 xba3 xba4 xba5 xba6 xba7 xba8 xba9 xba10 xba11 xpa0 xpa1 xpa2 xpa3 xua0 xua1 xua2 xma0 xma1 xma2 xma3 xma4 xma5 xma6 xma7 xma8 xma9 xma10 xma11 xma12 xda0 xda1 xda2 xda3 xda4 xda5 m0 m0a1 m0a5 m0a6 m0a7 m0a8 m0a9 m0a11 m0a12 m0a13 m0a14 m0a15 m0a16 m0a18 m0a19 m0a20 m0a21 m0a22 m0a24 m0a25 m0a26 m0a28 m0a29 m0a30 m0a31 m0a33 m0a34 m0a35 m0a36 m0a37 m0a38 m0a39 m0a40 m0a41 m0a42 m0a43 m0a44 m0a45 m0a46 m0a47 m0a49 m0a50 m0a51 m0a53 m0a54 m0a55 m0a56 m0a57 m0a58 m0a59 m0a60 m0a61 m0a62 m0a63 m0a67 m0a68 m0a69 m0a70 m0a71 m0a72 m0a73 m0a74 m0a75]; exact lcmp_self _) ?_
  refine lv_if_eq (tgt := 1955) hx hb dL_law_1950 (by decide) (fun _ => ?_) (fun c_5 => absurd (by decide) c_5)
  exact kend _ _ _ hS (lv_sub hl [3, 0] rfl)
