set_option maxRecDepth 100000 in
def fM_0 (ad : Nat → Nat) (o : OO) : List Value := [iv (o.1 0 0), .ref (ad 1), iv (o.1 0 2), .long (o.2 0 3), iv (o.1 0 4), .ref (ad 2), .ref (ad 3), .ref (ad 4), .ref (ad 5), .ref (ad 6), iv (o.1 0 10), .ref (ad 7), .ref (ad 8), .ref (ad 9), .ref (ad 10), .ref (ad 11), .ref (ad 12), iv (o.1 0 17), .ref (ad 13), .ref (ad 14), .ref (ad 15), .ref (ad 16), .ref (ad 17), iv (o.1 0 23), .ref (ad 18), .ref (ad 19), .ref (ad 20), iv (o.1 0 27), .ref (ad 21), .ref (ad 22), .ref (ad 23), .ref (ad 24), iv (o.1 0 32), .ref (ad 25), .ref (ad 26), .ref (ad 27), .ref (ad 28), .ref (ad 29), .ref (ad 30), .ref (ad 31), .ref (ad 32), .ref (ad 33), .ref (ad 34), .ref (ad 35), .ref (ad 36), .ref (ad 37), .ref (ad 38), .ref (ad 39), iv (o.1 0 48), .ref (ad 40), .ref (ad 41), .ref (ad 42), iv (o.1 0 52), .ref (ad 43), .ref (ad 44), .ref (ad 45), .ref (ad 46), .ref (ad 47), .ref (ad 48), .ref (ad 49), .ref (ad 50), .ref (ad 51), .ref (ad 52), .ref (ad 53), .long (o.2 0 64), iv (o.1 0 65), iv (o.1 0 66), .ref (ad 54), .ref (ad 55), .ref (ad 56), .ref (ad 57), .ref (ad 58), .ref (ad 59), .ref (ad 60), .ref (ad 61), .ref (ad 62), .long (o.2 0 76)]
set_option maxRecDepth 100000 in
def wM (g : GG) (ad : Nat → Nat) (o : OO) : va_W := [(ad 0, .inr (12, fM_0 ad o)), (ad 1, .inl (cI g, 6, .inl (fun j => Int32.ofInt (o.1 1 j)))), (ad 2, .inl (cI g, 6, .inl (fun j => Int32.ofInt (o.1 2 j)))), (ad 3, .inl (cI g, 240, .inl (fun j => Int32.ofInt (o.1 3 j)))), (ad 4, .inl (cI g, 40, .inl (fun j => Int32.ofInt (o.1 4 j)))), (ad 5, .inl (cI g, 4, .inl (fun j => Int32.ofInt (o.1 5 j)))), (ad 6, .inl (cI g, 160, .inl (fun j => Int32.ofInt (o.1 6 j)))), (ad 7, .inl (cI g, 16, .inl (fun j => Int32.ofInt (o.1 7 j)))), (ad 8, .inl (cI g, 16, .inl (fun j => Int32.ofInt (o.1 8 j)))), (ad 9, .inl (cI g, 128, .inl (fun j => Int32.ofInt (o.1 9 j)))), (ad 10, .inl (cI g, 8, .inl (fun j => Int32.ofInt (o.1 10 j)))), (ad 11, .inl (cI g, 64, .inl (fun j => Int32.ofInt (o.1 11 j)))), (ad 12, .inl (cI g, 64, .inl (fun j => Int32.ofInt (o.1 12 j)))), (ad 13, .inl (cI g, 32, .inl (fun j => Int32.ofInt (o.1 13 j)))), (ad 14, .inl (cI g, 32, .inl (fun j => Int32.ofInt (o.1 14 j)))), (ad 15, .inl (cI g, 32, .inl (fun j => Int32.ofInt (o.1 15 j)))), (ad 16, .inl (cZ g, 32, .inl (fun j => Int32.ofInt (o.1 16 j)))), (ad 17, .inl (cI g, 32, .inl (fun j => Int32.ofInt (o.1 17 j)))), (ad 18, .inl (cI g, 100, .inl (fun j => Int32.ofInt (o.1 18 j)))), (ad 19, .inl (cI g, 100, .inl (fun j => Int32.ofInt (o.1 19 j)))), (ad 20, .inl (cI g, 100, .inl (fun j => Int32.ofInt (o.1 20 j)))), (ad 21, .inl (cI g, 40, .inl (fun j => Int32.ofInt (o.1 21 j)))), (ad 22, .inl (cI g, 40, .inl (fun j => Int32.ofInt (o.1 22 j)))), (ad 23, .inl (cZ g, 40, .inl (fun j => Int32.ofInt (o.1 23 j)))), (ad 24, .inl (cI g, 40, .inl (fun j => Int32.ofInt (o.1 24 j)))), (ad 25, .inl (cI g, 24, .inl (fun j => Int32.ofInt (o.1 25 j)))), (ad 26, .inl (cI g, 24, .inl (fun j => Int32.ofInt (o.1 26 j)))), (ad 27, .inl (cI g, 24, .inl (fun j => Int32.ofInt (o.1 27 j)))), (ad 28, .inl (cI g, 24, .inl (fun j => Int32.ofInt (o.1 28 j)))), (ad 29, .inl (cI g, 24, .inl (fun j => Int32.ofInt (o.1 29 j)))), (ad 30, .inl (cI g, 24, .inl (fun j => Int32.ofInt (o.1 30 j)))), (ad 31, .inl (cI g, 1536, .inl (fun j => Int32.ofInt (o.1 31 j)))), (ad 32, .inl (cI g, 24, .inl (fun j => Int32.ofInt (o.1 32 j)))), (ad 33, .inl (cI g, 24, .inl (fun j => Int32.ofInt (o.1 33 j)))), (ad 34, .inl (cJ g, 24, .inr (.inl (o.2 34)))), (ad 35, .inl (cI g, 24, .inl (fun j => Int32.ofInt (o.1 35 j)))), (ad 36, .inl (cI g, 24, .inl (fun j => Int32.ofInt (o.1 36 j)))), (ad 37, .inl (cI g, 24, .inl (fun j => Int32.ofInt (o.1 37 j)))), (ad 38, .inl (cI g, 320, .inl (fun j => Int32.ofInt (o.1 38 j)))), (ad 39, .inl (cI g, 64, .inl (fun j => Int32.ofInt (o.1 39 j)))), (ad 40, .inl (cI g, 40, .inl (fun j => Int32.ofInt (o.1 40 j)))), (ad 41, .inl (cI g, 40, .inl (fun j => Int32.ofInt (o.1 41 j)))), (ad 42, .inl (cI g, 40, .inl (fun j => Int32.ofInt (o.1 42 j)))), (ad 43, .inl (cI g, 60, .inl (fun j => Int32.ofInt (o.1 43 j)))), (ad 44, .inl (cI g, 60, .inl (fun j => Int32.ofInt (o.1 44 j)))), (ad 45, .inl (cI g, 60, .inl (fun j => Int32.ofInt (o.1 45 j)))), (ad 46, .inl (cI g, 40, .inl (fun j => Int32.ofInt (o.1 46 j)))), (ad 47, .inl (cZ g, 40, .inl (fun j => Int32.ofInt (o.1 47 j)))), (ad 48, .inl (cI g, 32, .inl (fun j => Int32.ofInt (o.1 48 j)))), (ad 49, .inl (cI g, 32, .inl (fun j => Int32.ofInt (o.1 49 j)))), (ad 50, .inl (cI g, 32, .inl (fun j => Int32.ofInt (o.1 50 j)))), (ad 51, .inl (cI g, 32, .inl (fun j => Int32.ofInt (o.1 51 j)))), (ad 52, .inl (cI g, 64, .inl (fun j => Int32.ofInt (o.1 52 j)))), (ad 53, .inl (cI g, 32, .inl (fun j => Int32.ofInt (o.1 53 j)))), (ad 54, .inl (cI g, 13, .inl (fun j => Int32.ofInt (o.1 54 j)))), (ad 55, .inl (cI g, 13, .inl (fun j => Int32.ofInt (o.1 55 j)))), (ad 56, .inl (cI g, 13, .inl (fun j => Int32.ofInt (o.1 56 j)))), (ad 57, .inl (cI g, 13, .inl (fun j => Int32.ofInt (o.1 57 j)))), (ad 58, .inl (cZ g, 64, .inl (fun j => Int32.ofInt (o.1 58 j)))), (ad 59, .inl (cI g, 64, .inl (fun j => Int32.ofInt (o.1 59 j)))), (ad 60, .inl (cI g, 256, .inl (fun j => Int32.ofInt (o.1 60 j)))), (ad 61, .inl (cI g, 128, .inl (fun j => Int32.ofInt (o.1 61 j)))), (ad 62, .inl (cI g, 128, .inl (fun j => Int32.ofInt (o.1 62 j))))]
set_option maxRecDepth 100000 in
theorem wM_0 (g : GG) (ad : Nat → Nat) (o : OO) : (wM g ad o)[0]? = some (ad 0, .inr (12, fM_0 ad o)) := rfl
set_option maxRecDepth 100000 in
theorem wM_p0_0 (g : GG) (ad : Nat → Nat) (o : OO) (x : Int) : (wM g ad o).set 0 (ad 0, .inr (12, (fM_0 ad o).set 0 (iv x))) = wM g ad (st1 o 0 0 x) := rfl
set_option maxRecDepth 100000 in
theorem wM_p0_2 (g : GG) (ad : Nat → Nat) (o : OO) (x : Int) : (wM g ad o).set 0 (ad 0, .inr (12, (fM_0 ad o).set 2 (iv x))) = wM g ad (st1 o 0 2 x) := rfl
set_option maxRecDepth 100000 in
theorem wM_p0_3 (g : GG) (ad : Nat → Nat) (o : OO) (x : Int64) : (wM g ad o).set 0 (ad 0, .inr (12, (fM_0 ad o).set 3 (.long x))) = wM g ad (st2 o 0 3 x) := rfl
set_option maxRecDepth 100000 in
theorem wM_p0_4 (g : GG) (ad : Nat → Nat) (o : OO) (x : Int) : (wM g ad o).set 0 (ad 0, .inr (12, (fM_0 ad o).set 4 (iv x))) = wM g ad (st1 o 0 4 x) := rfl
set_option maxRecDepth 100000 in
theorem wM_p0_10 (g : GG) (ad : Nat → Nat) (o : OO) (x : Int) : (wM g ad o).set 0 (ad 0, .inr (12, (fM_0 ad o).set 10 (iv x))) = wM g ad (st1 o 0 10 x) := rfl
set_option maxRecDepth 100000 in
theorem wM_p0_17 (g : GG) (ad : Nat → Nat) (o : OO) (x : Int) : (wM g ad o).set 0 (ad 0, .inr (12, (fM_0 ad o).set 17 (iv x))) = wM g ad (st1 o 0 17 x) := rfl
set_option maxRecDepth 100000 in
theorem wM_p0_23 (g : GG) (ad : Nat → Nat) (o : OO) (x : Int) : (wM g ad o).set 0 (ad 0, .inr (12, (fM_0 ad o).set 23 (iv x))) = wM g ad (st1 o 0 23 x) := rfl
set_option maxRecDepth 100000 in
theorem wM_p0_27 (g : GG) (ad : Nat → Nat) (o : OO) (x : Int) : (wM g ad o).set 0 (ad 0, .inr (12, (fM_0 ad o).set 27 (iv x))) = wM g ad (st1 o 0 27 x) := rfl
set_option maxRecDepth 100000 in
theorem wM_p0_32 (g : GG) (ad : Nat → Nat) (o : OO) (x : Int) : (wM g ad o).set 0 (ad 0, .inr (12, (fM_0 ad o).set 32 (iv x))) = wM g ad (st1 o 0 32 x) := rfl
set_option maxRecDepth 100000 in
theorem wM_p0_48 (g : GG) (ad : Nat → Nat) (o : OO) (x : Int) : (wM g ad o).set 0 (ad 0, .inr (12, (fM_0 ad o).set 48 (iv x))) = wM g ad (st1 o 0 48 x) := rfl
set_option maxRecDepth 100000 in
theorem wM_p0_52 (g : GG) (ad : Nat → Nat) (o : OO) (x : Int) : (wM g ad o).set 0 (ad 0, .inr (12, (fM_0 ad o).set 52 (iv x))) = wM g ad (st1 o 0 52 x) := rfl
set_option maxRecDepth 100000 in
theorem wM_p0_64 (g : GG) (ad : Nat → Nat) (o : OO) (x : Int64) : (wM g ad o).set 0 (ad 0, .inr (12, (fM_0 ad o).set 64 (.long x))) = wM g ad (st2 o 0 64 x) := rfl
set_option maxRecDepth 100000 in
theorem wM_p0_65 (g : GG) (ad : Nat → Nat) (o : OO) (x : Int) : (wM g ad o).set 0 (ad 0, .inr (12, (fM_0 ad o).set 65 (iv x))) = wM g ad (st1 o 0 65 x) := rfl
set_option maxRecDepth 100000 in
theorem wM_p0_66 (g : GG) (ad : Nat → Nat) (o : OO) (x : Int) : (wM g ad o).set 0 (ad 0, .inr (12, (fM_0 ad o).set 66 (iv x))) = wM g ad (st1 o 0 66 x) := rfl
set_option maxRecDepth 100000 in
theorem wM_p0_76 (g : GG) (ad : Nat → Nat) (o : OO) (x : Int64) : (wM g ad o).set 0 (ad 0, .inr (12, (fM_0 ad o).set 76 (.long x))) = wM g ad (st2 o 0 76 x) := rfl
set_option maxRecDepth 100000 in
theorem wM_1 (g : GG) (ad : Nat → Nat) (o : OO) : (wM g ad o)[1]? = some (ad 1, .inl (cI g, 6, .inl (fun j => Int32.ofInt (o.1 1 j)))) := rfl
set_option maxRecDepth 100000 in
theorem wM_s1 (g : GG) (ad : Nat → Nat) (o : OO) (i : Nat) (x : Int) : (wM g ad o).set 1 (ad 1, .inl (cI g, 6, .inl (fun j => Int32.ofInt (if j = i then x else o.1 1 j)))) = wM g ad (st1 o 1 i x) := rfl
set_option maxRecDepth 100000 in
theorem wM_2 (g : GG) (ad : Nat → Nat) (o : OO) : (wM g ad o)[2]? = some (ad 2, .inl (cI g, 6, .inl (fun j => Int32.ofInt (o.1 2 j)))) := rfl
set_option maxRecDepth 100000 in
theorem wM_s2 (g : GG) (ad : Nat → Nat) (o : OO) (i : Nat) (x : Int) : (wM g ad o).set 2 (ad 2, .inl (cI g, 6, .inl (fun j => Int32.ofInt (if j = i then x else o.1 2 j)))) = wM g ad (st1 o 2 i x) := rfl
set_option maxRecDepth 100000 in
theorem wM_3 (g : GG) (ad : Nat → Nat) (o : OO) : (wM g ad o)[3]? = some (ad 3, .inl (cI g, 240, .inl (fun j => Int32.ofInt (o.1 3 j)))) := rfl
set_option maxRecDepth 100000 in
theorem wM_s3 (g : GG) (ad : Nat → Nat) (o : OO) (i : Nat) (x : Int) : (wM g ad o).set 3 (ad 3, .inl (cI g, 240, .inl (fun j => Int32.ofInt (if j = i then x else o.1 3 j)))) = wM g ad (st1 o 3 i x) := rfl
set_option maxRecDepth 100000 in
theorem wM_4 (g : GG) (ad : Nat → Nat) (o : OO) : (wM g ad o)[4]? = some (ad 4, .inl (cI g, 40, .inl (fun j => Int32.ofInt (o.1 4 j)))) := rfl
set_option maxRecDepth 100000 in
theorem wM_s4 (g : GG) (ad : Nat → Nat) (o : OO) (i : Nat) (x : Int) : (wM g ad o).set 4 (ad 4, .inl (cI g, 40, .inl (fun j => Int32.ofInt (if j = i then x else o.1 4 j)))) = wM g ad (st1 o 4 i x) := rfl
set_option maxRecDepth 100000 in
theorem wM_5 (g : GG) (ad : Nat → Nat) (o : OO) : (wM g ad o)[5]? = some (ad 5, .inl (cI g, 4, .inl (fun j => Int32.ofInt (o.1 5 j)))) := rfl
set_option maxRecDepth 100000 in
theorem wM_s5 (g : GG) (ad : Nat → Nat) (o : OO) (i : Nat) (x : Int) : (wM g ad o).set 5 (ad 5, .inl (cI g, 4, .inl (fun j => Int32.ofInt (if j = i then x else o.1 5 j)))) = wM g ad (st1 o 5 i x) := rfl
set_option maxRecDepth 100000 in
theorem wM_6 (g : GG) (ad : Nat → Nat) (o : OO) : (wM g ad o)[6]? = some (ad 6, .inl (cI g, 160, .inl (fun j => Int32.ofInt (o.1 6 j)))) := rfl
set_option maxRecDepth 100000 in
theorem wM_s6 (g : GG) (ad : Nat → Nat) (o : OO) (i : Nat) (x : Int) : (wM g ad o).set 6 (ad 6, .inl (cI g, 160, .inl (fun j => Int32.ofInt (if j = i then x else o.1 6 j)))) = wM g ad (st1 o 6 i x) := rfl
set_option maxRecDepth 100000 in
theorem wM_7 (g : GG) (ad : Nat → Nat) (o : OO) : (wM g ad o)[7]? = some (ad 7, .inl (cI g, 16, .inl (fun j => Int32.ofInt (o.1 7 j)))) := rfl
set_option maxRecDepth 100000 in
theorem wM_s7 (g : GG) (ad : Nat → Nat) (o : OO) (i : Nat) (x : Int) : (wM g ad o).set 7 (ad 7, .inl (cI g, 16, .inl (fun j => Int32.ofInt (if j = i then x else o.1 7 j)))) = wM g ad (st1 o 7 i x) := rfl
set_option maxRecDepth 100000 in
theorem wM_8 (g : GG) (ad : Nat → Nat) (o : OO) : (wM g ad o)[8]? = some (ad 8, .inl (cI g, 16, .inl (fun j => Int32.ofInt (o.1 8 j)))) := rfl
set_option maxRecDepth 100000 in
theorem wM_s8 (g : GG) (ad : Nat → Nat) (o : OO) (i : Nat) (x : Int) : (wM g ad o).set 8 (ad 8, .inl (cI g, 16, .inl (fun j => Int32.ofInt (if j = i then x else o.1 8 j)))) = wM g ad (st1 o 8 i x) := rfl
set_option maxRecDepth 100000 in
theorem wM_9 (g : GG) (ad : Nat → Nat) (o : OO) : (wM g ad o)[9]? = some (ad 9, .inl (cI g, 128, .inl (fun j => Int32.ofInt (o.1 9 j)))) := rfl
set_option maxRecDepth 100000 in
theorem wM_s9 (g : GG) (ad : Nat → Nat) (o : OO) (i : Nat) (x : Int) : (wM g ad o).set 9 (ad 9, .inl (cI g, 128, .inl (fun j => Int32.ofInt (if j = i then x else o.1 9 j)))) = wM g ad (st1 o 9 i x) := rfl
set_option maxRecDepth 100000 in
theorem wM_10 (g : GG) (ad : Nat → Nat) (o : OO) : (wM g ad o)[10]? = some (ad 10, .inl (cI g, 8, .inl (fun j => Int32.ofInt (o.1 10 j)))) := rfl
set_option maxRecDepth 100000 in
theorem wM_s10 (g : GG) (ad : Nat → Nat) (o : OO) (i : Nat) (x : Int) : (wM g ad o).set 10 (ad 10, .inl (cI g, 8, .inl (fun j => Int32.ofInt (if j = i then x else o.1 10 j)))) = wM g ad (st1 o 10 i x) := rfl
set_option maxRecDepth 100000 in
theorem wM_11 (g : GG) (ad : Nat → Nat) (o : OO) : (wM g ad o)[11]? = some (ad 11, .inl (cI g, 64, .inl (fun j => Int32.ofInt (o.1 11 j)))) := rfl
set_option maxRecDepth 100000 in
theorem wM_s11 (g : GG) (ad : Nat → Nat) (o : OO) (i : Nat) (x : Int) : (wM g ad o).set 11 (ad 11, .inl (cI g, 64, .inl (fun j => Int32.ofInt (if j = i then x else o.1 11 j)))) = wM g ad (st1 o 11 i x) := rfl
set_option maxRecDepth 100000 in
theorem wM_12 (g : GG) (ad : Nat → Nat) (o : OO) : (wM g ad o)[12]? = some (ad 12, .inl (cI g, 64, .inl (fun j => Int32.ofInt (o.1 12 j)))) := rfl
set_option maxRecDepth 100000 in
theorem wM_s12 (g : GG) (ad : Nat → Nat) (o : OO) (i : Nat) (x : Int) : (wM g ad o).set 12 (ad 12, .inl (cI g, 64, .inl (fun j => Int32.ofInt (if j = i then x else o.1 12 j)))) = wM g ad (st1 o 12 i x) := rfl
set_option maxRecDepth 100000 in
theorem wM_13 (g : GG) (ad : Nat → Nat) (o : OO) : (wM g ad o)[13]? = some (ad 13, .inl (cI g, 32, .inl (fun j => Int32.ofInt (o.1 13 j)))) := rfl
set_option maxRecDepth 100000 in
theorem wM_s13 (g : GG) (ad : Nat → Nat) (o : OO) (i : Nat) (x : Int) : (wM g ad o).set 13 (ad 13, .inl (cI g, 32, .inl (fun j => Int32.ofInt (if j = i then x else o.1 13 j)))) = wM g ad (st1 o 13 i x) := rfl
set_option maxRecDepth 100000 in
theorem wM_14 (g : GG) (ad : Nat → Nat) (o : OO) : (wM g ad o)[14]? = some (ad 14, .inl (cI g, 32, .inl (fun j => Int32.ofInt (o.1 14 j)))) := rfl
set_option maxRecDepth 100000 in
theorem wM_s14 (g : GG) (ad : Nat → Nat) (o : OO) (i : Nat) (x : Int) : (wM g ad o).set 14 (ad 14, .inl (cI g, 32, .inl (fun j => Int32.ofInt (if j = i then x else o.1 14 j)))) = wM g ad (st1 o 14 i x) := rfl
set_option maxRecDepth 100000 in
theorem wM_15 (g : GG) (ad : Nat → Nat) (o : OO) : (wM g ad o)[15]? = some (ad 15, .inl (cI g, 32, .inl (fun j => Int32.ofInt (o.1 15 j)))) := rfl
set_option maxRecDepth 100000 in
theorem wM_s15 (g : GG) (ad : Nat → Nat) (o : OO) (i : Nat) (x : Int) : (wM g ad o).set 15 (ad 15, .inl (cI g, 32, .inl (fun j => Int32.ofInt (if j = i then x else o.1 15 j)))) = wM g ad (st1 o 15 i x) := rfl
set_option maxRecDepth 100000 in
theorem wM_16 (g : GG) (ad : Nat → Nat) (o : OO) : (wM g ad o)[16]? = some (ad 16, .inl (cZ g, 32, .inl (fun j => Int32.ofInt (o.1 16 j)))) := rfl
set_option maxRecDepth 100000 in
theorem wM_s16 (g : GG) (ad : Nat → Nat) (o : OO) (i : Nat) (x : Int) : (wM g ad o).set 16 (ad 16, .inl (cZ g, 32, .inl (fun j => Int32.ofInt (if j = i then x else o.1 16 j)))) = wM g ad (st1 o 16 i x) := rfl
set_option maxRecDepth 100000 in
theorem wM_17 (g : GG) (ad : Nat → Nat) (o : OO) : (wM g ad o)[17]? = some (ad 17, .inl (cI g, 32, .inl (fun j => Int32.ofInt (o.1 17 j)))) := rfl
set_option maxRecDepth 100000 in
theorem wM_s17 (g : GG) (ad : Nat → Nat) (o : OO) (i : Nat) (x : Int) : (wM g ad o).set 17 (ad 17, .inl (cI g, 32, .inl (fun j => Int32.ofInt (if j = i then x else o.1 17 j)))) = wM g ad (st1 o 17 i x) := rfl
set_option maxRecDepth 100000 in
theorem wM_18 (g : GG) (ad : Nat → Nat) (o : OO) : (wM g ad o)[18]? = some (ad 18, .inl (cI g, 100, .inl (fun j => Int32.ofInt (o.1 18 j)))) := rfl
set_option maxRecDepth 100000 in
theorem wM_s18 (g : GG) (ad : Nat → Nat) (o : OO) (i : Nat) (x : Int) : (wM g ad o).set 18 (ad 18, .inl (cI g, 100, .inl (fun j => Int32.ofInt (if j = i then x else o.1 18 j)))) = wM g ad (st1 o 18 i x) := rfl
set_option maxRecDepth 100000 in
theorem wM_19 (g : GG) (ad : Nat → Nat) (o : OO) : (wM g ad o)[19]? = some (ad 19, .inl (cI g, 100, .inl (fun j => Int32.ofInt (o.1 19 j)))) := rfl
set_option maxRecDepth 100000 in
theorem wM_s19 (g : GG) (ad : Nat → Nat) (o : OO) (i : Nat) (x : Int) : (wM g ad o).set 19 (ad 19, .inl (cI g, 100, .inl (fun j => Int32.ofInt (if j = i then x else o.1 19 j)))) = wM g ad (st1 o 19 i x) := rfl
set_option maxRecDepth 100000 in
theorem wM_20 (g : GG) (ad : Nat → Nat) (o : OO) : (wM g ad o)[20]? = some (ad 20, .inl (cI g, 100, .inl (fun j => Int32.ofInt (o.1 20 j)))) := rfl
set_option maxRecDepth 100000 in
theorem wM_s20 (g : GG) (ad : Nat → Nat) (o : OO) (i : Nat) (x : Int) : (wM g ad o).set 20 (ad 20, .inl (cI g, 100, .inl (fun j => Int32.ofInt (if j = i then x else o.1 20 j)))) = wM g ad (st1 o 20 i x) := rfl
set_option maxRecDepth 100000 in
theorem wM_21 (g : GG) (ad : Nat → Nat) (o : OO) : (wM g ad o)[21]? = some (ad 21, .inl (cI g, 40, .inl (fun j => Int32.ofInt (o.1 21 j)))) := rfl
set_option maxRecDepth 100000 in
theorem wM_s21 (g : GG) (ad : Nat → Nat) (o : OO) (i : Nat) (x : Int) : (wM g ad o).set 21 (ad 21, .inl (cI g, 40, .inl (fun j => Int32.ofInt (if j = i then x else o.1 21 j)))) = wM g ad (st1 o 21 i x) := rfl
set_option maxRecDepth 100000 in
theorem wM_22 (g : GG) (ad : Nat → Nat) (o : OO) : (wM g ad o)[22]? = some (ad 22, .inl (cI g, 40, .inl (fun j => Int32.ofInt (o.1 22 j)))) := rfl
set_option maxRecDepth 100000 in
theorem wM_s22 (g : GG) (ad : Nat → Nat) (o : OO) (i : Nat) (x : Int) : (wM g ad o).set 22 (ad 22, .inl (cI g, 40, .inl (fun j => Int32.ofInt (if j = i then x else o.1 22 j)))) = wM g ad (st1 o 22 i x) := rfl
set_option maxRecDepth 100000 in
theorem wM_23 (g : GG) (ad : Nat → Nat) (o : OO) : (wM g ad o)[23]? = some (ad 23, .inl (cZ g, 40, .inl (fun j => Int32.ofInt (o.1 23 j)))) := rfl
set_option maxRecDepth 100000 in
theorem wM_s23 (g : GG) (ad : Nat → Nat) (o : OO) (i : Nat) (x : Int) : (wM g ad o).set 23 (ad 23, .inl (cZ g, 40, .inl (fun j => Int32.ofInt (if j = i then x else o.1 23 j)))) = wM g ad (st1 o 23 i x) := rfl
set_option maxRecDepth 100000 in
theorem wM_24 (g : GG) (ad : Nat → Nat) (o : OO) : (wM g ad o)[24]? = some (ad 24, .inl (cI g, 40, .inl (fun j => Int32.ofInt (o.1 24 j)))) := rfl
set_option maxRecDepth 100000 in
theorem wM_s24 (g : GG) (ad : Nat → Nat) (o : OO) (i : Nat) (x : Int) : (wM g ad o).set 24 (ad 24, .inl (cI g, 40, .inl (fun j => Int32.ofInt (if j = i then x else o.1 24 j)))) = wM g ad (st1 o 24 i x) := rfl
set_option maxRecDepth 100000 in
theorem wM_25 (g : GG) (ad : Nat → Nat) (o : OO) : (wM g ad o)[25]? = some (ad 25, .inl (cI g, 24, .inl (fun j => Int32.ofInt (o.1 25 j)))) := rfl
set_option maxRecDepth 100000 in
theorem wM_s25 (g : GG) (ad : Nat → Nat) (o : OO) (i : Nat) (x : Int) : (wM g ad o).set 25 (ad 25, .inl (cI g, 24, .inl (fun j => Int32.ofInt (if j = i then x else o.1 25 j)))) = wM g ad (st1 o 25 i x) := rfl
set_option maxRecDepth 100000 in
theorem wM_26 (g : GG) (ad : Nat → Nat) (o : OO) : (wM g ad o)[26]? = some (ad 26, .inl (cI g, 24, .inl (fun j => Int32.ofInt (o.1 26 j)))) := rfl
set_option maxRecDepth 100000 in
theorem wM_s26 (g : GG) (ad : Nat → Nat) (o : OO) (i : Nat) (x : Int) : (wM g ad o).set 26 (ad 26, .inl (cI g, 24, .inl (fun j => Int32.ofInt (if j = i then x else o.1 26 j)))) = wM g ad (st1 o 26 i x) := rfl
set_option maxRecDepth 100000 in
theorem wM_27 (g : GG) (ad : Nat → Nat) (o : OO) : (wM g ad o)[27]? = some (ad 27, .inl (cI g, 24, .inl (fun j => Int32.ofInt (o.1 27 j)))) := rfl
set_option maxRecDepth 100000 in
theorem wM_s27 (g : GG) (ad : Nat → Nat) (o : OO) (i : Nat) (x : Int) : (wM g ad o).set 27 (ad 27, .inl (cI g, 24, .inl (fun j => Int32.ofInt (if j = i then x else o.1 27 j)))) = wM g ad (st1 o 27 i x) := rfl
set_option maxRecDepth 100000 in
theorem wM_28 (g : GG) (ad : Nat → Nat) (o : OO) : (wM g ad o)[28]? = some (ad 28, .inl (cI g, 24, .inl (fun j => Int32.ofInt (o.1 28 j)))) := rfl
set_option maxRecDepth 100000 in
theorem wM_s28 (g : GG) (ad : Nat → Nat) (o : OO) (i : Nat) (x : Int) : (wM g ad o).set 28 (ad 28, .inl (cI g, 24, .inl (fun j => Int32.ofInt (if j = i then x else o.1 28 j)))) = wM g ad (st1 o 28 i x) := rfl
set_option maxRecDepth 100000 in
theorem wM_29 (g : GG) (ad : Nat → Nat) (o : OO) : (wM g ad o)[29]? = some (ad 29, .inl (cI g, 24, .inl (fun j => Int32.ofInt (o.1 29 j)))) := rfl
set_option maxRecDepth 100000 in
theorem wM_s29 (g : GG) (ad : Nat → Nat) (o : OO) (i : Nat) (x : Int) : (wM g ad o).set 29 (ad 29, .inl (cI g, 24, .inl (fun j => Int32.ofInt (if j = i then x else o.1 29 j)))) = wM g ad (st1 o 29 i x) := rfl
set_option maxRecDepth 100000 in
theorem wM_30 (g : GG) (ad : Nat → Nat) (o : OO) : (wM g ad o)[30]? = some (ad 30, .inl (cI g, 24, .inl (fun j => Int32.ofInt (o.1 30 j)))) := rfl
set_option maxRecDepth 100000 in
theorem wM_s30 (g : GG) (ad : Nat → Nat) (o : OO) (i : Nat) (x : Int) : (wM g ad o).set 30 (ad 30, .inl (cI g, 24, .inl (fun j => Int32.ofInt (if j = i then x else o.1 30 j)))) = wM g ad (st1 o 30 i x) := rfl
set_option maxRecDepth 100000 in
theorem wM_31 (g : GG) (ad : Nat → Nat) (o : OO) : (wM g ad o)[31]? = some (ad 31, .inl (cI g, 1536, .inl (fun j => Int32.ofInt (o.1 31 j)))) := rfl
set_option maxRecDepth 100000 in
theorem wM_s31 (g : GG) (ad : Nat → Nat) (o : OO) (i : Nat) (x : Int) : (wM g ad o).set 31 (ad 31, .inl (cI g, 1536, .inl (fun j => Int32.ofInt (if j = i then x else o.1 31 j)))) = wM g ad (st1 o 31 i x) := rfl
set_option maxRecDepth 100000 in
theorem wM_32 (g : GG) (ad : Nat → Nat) (o : OO) : (wM g ad o)[32]? = some (ad 32, .inl (cI g, 24, .inl (fun j => Int32.ofInt (o.1 32 j)))) := rfl
set_option maxRecDepth 100000 in
theorem wM_s32 (g : GG) (ad : Nat → Nat) (o : OO) (i : Nat) (x : Int) : (wM g ad o).set 32 (ad 32, .inl (cI g, 24, .inl (fun j => Int32.ofInt (if j = i then x else o.1 32 j)))) = wM g ad (st1 o 32 i x) := rfl
set_option maxRecDepth 100000 in
theorem wM_33 (g : GG) (ad : Nat → Nat) (o : OO) : (wM g ad o)[33]? = some (ad 33, .inl (cI g, 24, .inl (fun j => Int32.ofInt (o.1 33 j)))) := rfl
set_option maxRecDepth 100000 in
theorem wM_s33 (g : GG) (ad : Nat → Nat) (o : OO) (i : Nat) (x : Int) : (wM g ad o).set 33 (ad 33, .inl (cI g, 24, .inl (fun j => Int32.ofInt (if j = i then x else o.1 33 j)))) = wM g ad (st1 o 33 i x) := rfl
set_option maxRecDepth 100000 in
theorem wM_34 (g : GG) (ad : Nat → Nat) (o : OO) : (wM g ad o)[34]? = some (ad 34, .inl (cJ g, 24, .inr (.inl (o.2 34)))) := rfl
set_option maxRecDepth 100000 in
theorem wM_s34 (g : GG) (ad : Nat → Nat) (o : OO) (i : Nat) (x : Int64) : (wM g ad o).set 34 (ad 34, .inl (cJ g, 24, .inr (.inl (vp_updL (o.2 34) i x)))) = wM g ad (st2 o 34 i x) := rfl
set_option maxRecDepth 100000 in
theorem wM_35 (g : GG) (ad : Nat → Nat) (o : OO) : (wM g ad o)[35]? = some (ad 35, .inl (cI g, 24, .inl (fun j => Int32.ofInt (o.1 35 j)))) := rfl
set_option maxRecDepth 100000 in
theorem wM_s35 (g : GG) (ad : Nat → Nat) (o : OO) (i : Nat) (x : Int) : (wM g ad o).set 35 (ad 35, .inl (cI g, 24, .inl (fun j => Int32.ofInt (if j = i then x else o.1 35 j)))) = wM g ad (st1 o 35 i x) := rfl
set_option maxRecDepth 100000 in
theorem wM_36 (g : GG) (ad : Nat → Nat) (o : OO) : (wM g ad o)[36]? = some (ad 36, .inl (cI g, 24, .inl (fun j => Int32.ofInt (o.1 36 j)))) := rfl
set_option maxRecDepth 100000 in
theorem wM_s36 (g : GG) (ad : Nat → Nat) (o : OO) (i : Nat) (x : Int) : (wM g ad o).set 36 (ad 36, .inl (cI g, 24, .inl (fun j => Int32.ofInt (if j = i then x else o.1 36 j)))) = wM g ad (st1 o 36 i x) := rfl
set_option maxRecDepth 100000 in
theorem wM_37 (g : GG) (ad : Nat → Nat) (o : OO) : (wM g ad o)[37]? = some (ad 37, .inl (cI g, 24, .inl (fun j => Int32.ofInt (o.1 37 j)))) := rfl
set_option maxRecDepth 100000 in
theorem wM_s37 (g : GG) (ad : Nat → Nat) (o : OO) (i : Nat) (x : Int) : (wM g ad o).set 37 (ad 37, .inl (cI g, 24, .inl (fun j => Int32.ofInt (if j = i then x else o.1 37 j)))) = wM g ad (st1 o 37 i x) := rfl
set_option maxRecDepth 100000 in
theorem wM_38 (g : GG) (ad : Nat → Nat) (o : OO) : (wM g ad o)[38]? = some (ad 38, .inl (cI g, 320, .inl (fun j => Int32.ofInt (o.1 38 j)))) := rfl
set_option maxRecDepth 100000 in
theorem wM_s38 (g : GG) (ad : Nat → Nat) (o : OO) (i : Nat) (x : Int) : (wM g ad o).set 38 (ad 38, .inl (cI g, 320, .inl (fun j => Int32.ofInt (if j = i then x else o.1 38 j)))) = wM g ad (st1 o 38 i x) := rfl
set_option maxRecDepth 100000 in
theorem wM_39 (g : GG) (ad : Nat → Nat) (o : OO) : (wM g ad o)[39]? = some (ad 39, .inl (cI g, 64, .inl (fun j => Int32.ofInt (o.1 39 j)))) := rfl
set_option maxRecDepth 100000 in
theorem wM_s39 (g : GG) (ad : Nat → Nat) (o : OO) (i : Nat) (x : Int) : (wM g ad o).set 39 (ad 39, .inl (cI g, 64, .inl (fun j => Int32.ofInt (if j = i then x else o.1 39 j)))) = wM g ad (st1 o 39 i x) := rfl
set_option maxRecDepth 100000 in
theorem wM_40 (g : GG) (ad : Nat → Nat) (o : OO) : (wM g ad o)[40]? = some (ad 40, .inl (cI g, 40, .inl (fun j => Int32.ofInt (o.1 40 j)))) := rfl
set_option maxRecDepth 100000 in
theorem wM_s40 (g : GG) (ad : Nat → Nat) (o : OO) (i : Nat) (x : Int) : (wM g ad o).set 40 (ad 40, .inl (cI g, 40, .inl (fun j => Int32.ofInt (if j = i then x else o.1 40 j)))) = wM g ad (st1 o 40 i x) := rfl
set_option maxRecDepth 100000 in
theorem wM_41 (g : GG) (ad : Nat → Nat) (o : OO) : (wM g ad o)[41]? = some (ad 41, .inl (cI g, 40, .inl (fun j => Int32.ofInt (o.1 41 j)))) := rfl
set_option maxRecDepth 100000 in
theorem wM_s41 (g : GG) (ad : Nat → Nat) (o : OO) (i : Nat) (x : Int) : (wM g ad o).set 41 (ad 41, .inl (cI g, 40, .inl (fun j => Int32.ofInt (if j = i then x else o.1 41 j)))) = wM g ad (st1 o 41 i x) := rfl
set_option maxRecDepth 100000 in
theorem wM_42 (g : GG) (ad : Nat → Nat) (o : OO) : (wM g ad o)[42]? = some (ad 42, .inl (cI g, 40, .inl (fun j => Int32.ofInt (o.1 42 j)))) := rfl
set_option maxRecDepth 100000 in
theorem wM_s42 (g : GG) (ad : Nat → Nat) (o : OO) (i : Nat) (x : Int) : (wM g ad o).set 42 (ad 42, .inl (cI g, 40, .inl (fun j => Int32.ofInt (if j = i then x else o.1 42 j)))) = wM g ad (st1 o 42 i x) := rfl
set_option maxRecDepth 100000 in
theorem wM_43 (g : GG) (ad : Nat → Nat) (o : OO) : (wM g ad o)[43]? = some (ad 43, .inl (cI g, 60, .inl (fun j => Int32.ofInt (o.1 43 j)))) := rfl
set_option maxRecDepth 100000 in
theorem wM_s43 (g : GG) (ad : Nat → Nat) (o : OO) (i : Nat) (x : Int) : (wM g ad o).set 43 (ad 43, .inl (cI g, 60, .inl (fun j => Int32.ofInt (if j = i then x else o.1 43 j)))) = wM g ad (st1 o 43 i x) := rfl
set_option maxRecDepth 100000 in
theorem wM_44 (g : GG) (ad : Nat → Nat) (o : OO) : (wM g ad o)[44]? = some (ad 44, .inl (cI g, 60, .inl (fun j => Int32.ofInt (o.1 44 j)))) := rfl
set_option maxRecDepth 100000 in
theorem wM_s44 (g : GG) (ad : Nat → Nat) (o : OO) (i : Nat) (x : Int) : (wM g ad o).set 44 (ad 44, .inl (cI g, 60, .inl (fun j => Int32.ofInt (if j = i then x else o.1 44 j)))) = wM g ad (st1 o 44 i x) := rfl
set_option maxRecDepth 100000 in
theorem wM_45 (g : GG) (ad : Nat → Nat) (o : OO) : (wM g ad o)[45]? = some (ad 45, .inl (cI g, 60, .inl (fun j => Int32.ofInt (o.1 45 j)))) := rfl
set_option maxRecDepth 100000 in
theorem wM_s45 (g : GG) (ad : Nat → Nat) (o : OO) (i : Nat) (x : Int) : (wM g ad o).set 45 (ad 45, .inl (cI g, 60, .inl (fun j => Int32.ofInt (if j = i then x else o.1 45 j)))) = wM g ad (st1 o 45 i x) := rfl
set_option maxRecDepth 100000 in
theorem wM_46 (g : GG) (ad : Nat → Nat) (o : OO) : (wM g ad o)[46]? = some (ad 46, .inl (cI g, 40, .inl (fun j => Int32.ofInt (o.1 46 j)))) := rfl
set_option maxRecDepth 100000 in
theorem wM_s46 (g : GG) (ad : Nat → Nat) (o : OO) (i : Nat) (x : Int) : (wM g ad o).set 46 (ad 46, .inl (cI g, 40, .inl (fun j => Int32.ofInt (if j = i then x else o.1 46 j)))) = wM g ad (st1 o 46 i x) := rfl
set_option maxRecDepth 100000 in
theorem wM_47 (g : GG) (ad : Nat → Nat) (o : OO) : (wM g ad o)[47]? = some (ad 47, .inl (cZ g, 40, .inl (fun j => Int32.ofInt (o.1 47 j)))) := rfl
set_option maxRecDepth 100000 in
theorem wM_s47 (g : GG) (ad : Nat → Nat) (o : OO) (i : Nat) (x : Int) : (wM g ad o).set 47 (ad 47, .inl (cZ g, 40, .inl (fun j => Int32.ofInt (if j = i then x else o.1 47 j)))) = wM g ad (st1 o 47 i x) := rfl
set_option maxRecDepth 100000 in
theorem wM_48 (g : GG) (ad : Nat → Nat) (o : OO) : (wM g ad o)[48]? = some (ad 48, .inl (cI g, 32, .inl (fun j => Int32.ofInt (o.1 48 j)))) := rfl
set_option maxRecDepth 100000 in
theorem wM_s48 (g : GG) (ad : Nat → Nat) (o : OO) (i : Nat) (x : Int) : (wM g ad o).set 48 (ad 48, .inl (cI g, 32, .inl (fun j => Int32.ofInt (if j = i then x else o.1 48 j)))) = wM g ad (st1 o 48 i x) := rfl
set_option maxRecDepth 100000 in
theorem wM_49 (g : GG) (ad : Nat → Nat) (o : OO) : (wM g ad o)[49]? = some (ad 49, .inl (cI g, 32, .inl (fun j => Int32.ofInt (o.1 49 j)))) := rfl
set_option maxRecDepth 100000 in
theorem wM_s49 (g : GG) (ad : Nat → Nat) (o : OO) (i : Nat) (x : Int) : (wM g ad o).set 49 (ad 49, .inl (cI g, 32, .inl (fun j => Int32.ofInt (if j = i then x else o.1 49 j)))) = wM g ad (st1 o 49 i x) := rfl
set_option maxRecDepth 100000 in
theorem wM_50 (g : GG) (ad : Nat → Nat) (o : OO) : (wM g ad o)[50]? = some (ad 50, .inl (cI g, 32, .inl (fun j => Int32.ofInt (o.1 50 j)))) := rfl
set_option maxRecDepth 100000 in
theorem wM_s50 (g : GG) (ad : Nat → Nat) (o : OO) (i : Nat) (x : Int) : (wM g ad o).set 50 (ad 50, .inl (cI g, 32, .inl (fun j => Int32.ofInt (if j = i then x else o.1 50 j)))) = wM g ad (st1 o 50 i x) := rfl
set_option maxRecDepth 100000 in
theorem wM_51 (g : GG) (ad : Nat → Nat) (o : OO) : (wM g ad o)[51]? = some (ad 51, .inl (cI g, 32, .inl (fun j => Int32.ofInt (o.1 51 j)))) := rfl
set_option maxRecDepth 100000 in
theorem wM_s51 (g : GG) (ad : Nat → Nat) (o : OO) (i : Nat) (x : Int) : (wM g ad o).set 51 (ad 51, .inl (cI g, 32, .inl (fun j => Int32.ofInt (if j = i then x else o.1 51 j)))) = wM g ad (st1 o 51 i x) := rfl
set_option maxRecDepth 100000 in
theorem wM_52 (g : GG) (ad : Nat → Nat) (o : OO) : (wM g ad o)[52]? = some (ad 52, .inl (cI g, 64, .inl (fun j => Int32.ofInt (o.1 52 j)))) := rfl
set_option maxRecDepth 100000 in
theorem wM_s52 (g : GG) (ad : Nat → Nat) (o : OO) (i : Nat) (x : Int) : (wM g ad o).set 52 (ad 52, .inl (cI g, 64, .inl (fun j => Int32.ofInt (if j = i then x else o.1 52 j)))) = wM g ad (st1 o 52 i x) := rfl
set_option maxRecDepth 100000 in
theorem wM_53 (g : GG) (ad : Nat → Nat) (o : OO) : (wM g ad o)[53]? = some (ad 53, .inl (cI g, 32, .inl (fun j => Int32.ofInt (o.1 53 j)))) := rfl
set_option maxRecDepth 100000 in
theorem wM_s53 (g : GG) (ad : Nat → Nat) (o : OO) (i : Nat) (x : Int) : (wM g ad o).set 53 (ad 53, .inl (cI g, 32, .inl (fun j => Int32.ofInt (if j = i then x else o.1 53 j)))) = wM g ad (st1 o 53 i x) := rfl
set_option maxRecDepth 100000 in
theorem wM_54 (g : GG) (ad : Nat → Nat) (o : OO) : (wM g ad o)[54]? = some (ad 54, .inl (cI g, 13, .inl (fun j => Int32.ofInt (o.1 54 j)))) := rfl
set_option maxRecDepth 100000 in
theorem wM_s54 (g : GG) (ad : Nat → Nat) (o : OO) (i : Nat) (x : Int) : (wM g ad o).set 54 (ad 54, .inl (cI g, 13, .inl (fun j => Int32.ofInt (if j = i then x else o.1 54 j)))) = wM g ad (st1 o 54 i x) := rfl
set_option maxRecDepth 100000 in
theorem wM_55 (g : GG) (ad : Nat → Nat) (o : OO) : (wM g ad o)[55]? = some (ad 55, .inl (cI g, 13, .inl (fun j => Int32.ofInt (o.1 55 j)))) := rfl
set_option maxRecDepth 100000 in
theorem wM_s55 (g : GG) (ad : Nat → Nat) (o : OO) (i : Nat) (x : Int) : (wM g ad o).set 55 (ad 55, .inl (cI g, 13, .inl (fun j => Int32.ofInt (if j = i then x else o.1 55 j)))) = wM g ad (st1 o 55 i x) := rfl
set_option maxRecDepth 100000 in
theorem wM_56 (g : GG) (ad : Nat → Nat) (o : OO) : (wM g ad o)[56]? = some (ad 56, .inl (cI g, 13, .inl (fun j => Int32.ofInt (o.1 56 j)))) := rfl
set_option maxRecDepth 100000 in
theorem wM_s56 (g : GG) (ad : Nat → Nat) (o : OO) (i : Nat) (x : Int) : (wM g ad o).set 56 (ad 56, .inl (cI g, 13, .inl (fun j => Int32.ofInt (if j = i then x else o.1 56 j)))) = wM g ad (st1 o 56 i x) := rfl
set_option maxRecDepth 100000 in
theorem wM_57 (g : GG) (ad : Nat → Nat) (o : OO) : (wM g ad o)[57]? = some (ad 57, .inl (cI g, 13, .inl (fun j => Int32.ofInt (o.1 57 j)))) := rfl
set_option maxRecDepth 100000 in
theorem wM_s57 (g : GG) (ad : Nat → Nat) (o : OO) (i : Nat) (x : Int) : (wM g ad o).set 57 (ad 57, .inl (cI g, 13, .inl (fun j => Int32.ofInt (if j = i then x else o.1 57 j)))) = wM g ad (st1 o 57 i x) := rfl
set_option maxRecDepth 100000 in
theorem wM_58 (g : GG) (ad : Nat → Nat) (o : OO) : (wM g ad o)[58]? = some (ad 58, .inl (cZ g, 64, .inl (fun j => Int32.ofInt (o.1 58 j)))) := rfl
set_option maxRecDepth 100000 in
theorem wM_s58 (g : GG) (ad : Nat → Nat) (o : OO) (i : Nat) (x : Int) : (wM g ad o).set 58 (ad 58, .inl (cZ g, 64, .inl (fun j => Int32.ofInt (if j = i then x else o.1 58 j)))) = wM g ad (st1 o 58 i x) := rfl
set_option maxRecDepth 100000 in
theorem wM_59 (g : GG) (ad : Nat → Nat) (o : OO) : (wM g ad o)[59]? = some (ad 59, .inl (cI g, 64, .inl (fun j => Int32.ofInt (o.1 59 j)))) := rfl
set_option maxRecDepth 100000 in
theorem wM_s59 (g : GG) (ad : Nat → Nat) (o : OO) (i : Nat) (x : Int) : (wM g ad o).set 59 (ad 59, .inl (cI g, 64, .inl (fun j => Int32.ofInt (if j = i then x else o.1 59 j)))) = wM g ad (st1 o 59 i x) := rfl
set_option maxRecDepth 100000 in
theorem wM_60 (g : GG) (ad : Nat → Nat) (o : OO) : (wM g ad o)[60]? = some (ad 60, .inl (cI g, 256, .inl (fun j => Int32.ofInt (o.1 60 j)))) := rfl
set_option maxRecDepth 100000 in
theorem wM_s60 (g : GG) (ad : Nat → Nat) (o : OO) (i : Nat) (x : Int) : (wM g ad o).set 60 (ad 60, .inl (cI g, 256, .inl (fun j => Int32.ofInt (if j = i then x else o.1 60 j)))) = wM g ad (st1 o 60 i x) := rfl
set_option maxRecDepth 100000 in
theorem wM_61 (g : GG) (ad : Nat → Nat) (o : OO) : (wM g ad o)[61]? = some (ad 61, .inl (cI g, 128, .inl (fun j => Int32.ofInt (o.1 61 j)))) := rfl
set_option maxRecDepth 100000 in
theorem wM_s61 (g : GG) (ad : Nat → Nat) (o : OO) (i : Nat) (x : Int) : (wM g ad o).set 61 (ad 61, .inl (cI g, 128, .inl (fun j => Int32.ofInt (if j = i then x else o.1 61 j)))) = wM g ad (st1 o 61 i x) := rfl
set_option maxRecDepth 100000 in
theorem wM_62 (g : GG) (ad : Nat → Nat) (o : OO) : (wM g ad o)[62]? = some (ad 62, .inl (cI g, 128, .inl (fun j => Int32.ofInt (o.1 62 j)))) := rfl
set_option maxRecDepth 100000 in
theorem wM_s62 (g : GG) (ad : Nat → Nat) (o : OO) (i : Nat) (x : Int) : (wM g ad o).set 62 (ad 62, .inl (cI g, 128, .inl (fun j => Int32.ofInt (if j = i then x else o.1 62 j)))) = wM g ad (st1 o 62 i x) := rfl
set_option maxRecDepth 100000 in
def fC_0 (ad : Nat → Nat) (o : OO) : List Value := [.ref (ad 1), .ref (ad 4), .ref (ad 7), .ref (ad 10), .ref (ad 23), .ref (ad 28), .ref (ad 32), .ref (ad 46), .ref (ad 53), .ref (ad 59), .ref (ad 66), .ref (ad 71), .ref (ad 77), iv (o.1 0 13), iv (o.1 0 14), .long (o.2 0 15), .long (o.2 0 16), iv (o.1 0 17)]
set_option maxRecDepth 100000 in
def fC_1 (ad : Nat → Nat) (o : OO) : List Value := [iv (o.1 1 0), iv (o.1 1 1), .ref (ad 2), .ref (ad 3)]
set_option maxRecDepth 100000 in
def fC_4 (ad : Nat → Nat) (o : OO) : List Value := [iv (o.1 4 0), iv (o.1 4 1), .ref (ad 5), .ref (ad 6)]
set_option maxRecDepth 100000 in
def fC_7 (ad : Nat → Nat) (o : OO) : List Value := [.ref (ad 8), .ref (ad 9)]
set_option maxRecDepth 100000 in
def fC_10 (ad : Nat → Nat) (o : OO) : List Value := [.ref (ad 11), .ref (ad 12), .ref (ad 13), .ref (ad 14), .ref (ad 15), .ref (ad 16), .ref (ad 17), .ref (ad 18), .ref (ad 19), .ref (ad 20), .ref (ad 21), .ref (ad 22), iv (o.1 10 12), iv (o.1 10 13)]
set_option maxRecDepth 100000 in
def fC_23 (ad : Nat → Nat) (o : OO) : List Value := [.ref (ad 24), .ref (ad 25), .ref (ad 26), .ref (ad 27), iv (o.1 23 4)]
set_option maxRecDepth 100000 in
def fC_28 (ad : Nat → Nat) (o : OO) : List Value := [.ref (ad 29), .ref (ad 30), .ref (ad 31), iv (o.1 28 3)]
set_option maxRecDepth 100000 in
def fC_32 (ad : Nat → Nat) (o : OO) : List Value := [.ref (ad 33), .ref (ad 34), .ref (ad 35), .ref (ad 36), .ref (ad 37), .ref (ad 38), .ref (ad 39), .ref (ad 40), .ref (ad 41), .ref (ad 42), .ref (ad 43), .ref (ad 44), .ref (ad 45), iv (o.1 32 13)]
set_option maxRecDepth 100000 in
def fC_46 (ad : Nat → Nat) (o : OO) : List Value := [.ref (ad 47), .ref (ad 48), .ref (ad 49), .ref (ad 50), .ref (ad 51), .ref (ad 52), iv (o.1 46 6), iv (o.1 46 7)]
set_option maxRecDepth 100000 in
def fC_53 (ad : Nat → Nat) (o : OO) : List Value := [.ref (ad 54), .ref (ad 55), iv (o.1 53 2), iv (o.1 53 3), .ref (ad 56), .ref (ad 57), .ref (ad 58), .long (o.2 53 7), iv (o.1 53 8), iv (o.1 53 9), iv (o.1 53 10)]
set_option maxRecDepth 100000 in
def fC_59 (ad : Nat → Nat) (o : OO) : List Value := [iv (o.1 59 0), iv (o.1 59 1), .ref (ad 60), .ref (ad 61), .ref (ad 62), .ref (ad 63), .ref (ad 64), .ref (ad 65), iv (o.1 59 8)]
set_option maxRecDepth 100000 in
def fC_66 (ad : Nat → Nat) (o : OO) : List Value := [iv (o.1 66 0), iv (o.1 66 1), .ref (ad 67), .ref (ad 68), .ref (ad 69), .ref (ad 70)]
set_option maxRecDepth 100000 in
def fC_71 (ad : Nat → Nat) (o : OO) : List Value := [.ref (ad 72), .ref (ad 73), .ref (ad 74), .ref (ad 75), .ref (ad 76), iv (o.1 71 5)]
set_option maxRecDepth 100000 in
def wC (g : GG) (ad : Nat → Nat) (o : OO) : va_W := [(ad 0, .inr (11, fC_0 ad o)), (ad 1, .inr (8, fC_1 ad o)), (ad 2, .inl (cI g, 6, .inl (fun j => Int32.ofInt (o.1 2 j)))), (ad 3, .inl (cI g, 240, .inl (fun j => Int32.ofInt (o.1 3 j)))), (ad 4, .inr (8, fC_4 ad o)), (ad 5, .inl (cI g, 6, .inl (fun j => Int32.ofInt (o.1 5 j)))), (ad 6, .inl (cI g, 240, .inl (fun j => Int32.ofInt (o.1 6 j)))), (ad 7, .inr (3, fC_7 ad o)), (ad 8, .inl (cI g, 64, .inl (fun j => Int32.ofInt (o.1 8 j)))), (ad 9, .inl (cI g, 64, .inl (fun j => Int32.ofInt (o.1 9 j)))), (ad 10, .inr (1, fC_10 ad o)), (ad 11, .inl (cI g, 32, .inl (fun j => Int32.ofInt (o.1 11 j)))), (ad 12, .inl (cI g, 32, .inl (fun j => Int32.ofInt (o.1 12 j)))), (ad 13, .inl (cI g, 32, .inl (fun j => Int32.ofInt (o.1 13 j)))), (ad 14, .inl (cI g, 32, .inl (fun j => Int32.ofInt (o.1 14 j)))), (ad 15, .inl (cI g, 32, .inl (fun j => Int32.ofInt (o.1 15 j)))), (ad 16, .inl (cI g, 32, .inl (fun j => Int32.ofInt (o.1 16 j)))), (ad 17, .inl (cZ g, 32, .inl (fun j => Int32.ofInt (o.1 17 j)))), (ad 18, .inl (cI g, 64, .inl (fun j => Int32.ofInt (o.1 18 j)))), (ad 19, .inl (cI g, 100, .inl (fun j => Int32.ofInt (o.1 19 j)))), (ad 20, .inl (cI g, 100, .inl (fun j => Int32.ofInt (o.1 20 j)))), (ad 21, .inl (cI g, 100, .inl (fun j => Int32.ofInt (o.1 21 j)))), (ad 22, .inl (cI g, 32, .inl (fun j => Int32.ofInt (o.1 22 j)))), (ad 23, .inr (5, fC_23 ad o)), (ad 24, .inl (cI g, 40, .inl (fun j => Int32.ofInt (o.1 24 j)))), (ad 25, .inl (cI g, 40, .inl (fun j => Int32.ofInt (o.1 25 j)))), (ad 26, .inl (cZ g, 40, .inl (fun j => Int32.ofInt (o.1 26 j)))), (ad 27, .inl (cI g, 40, .inl (fun j => Int32.ofInt (o.1 27 j)))), (ad 28, .inr (7, fC_28 ad o)), (ad 29, .inl (cI g, 16, .inl (fun j => Int32.ofInt (o.1 29 j)))), (ad 30, .inl (cI g, 16, .inl (fun j => Int32.ofInt (o.1 30 j)))), (ad 31, .inl (cI g, 128, .inl (fun j => Int32.ofInt (o.1 31 j)))), (ad 32, .inr (4, fC_32 ad o)), (ad 33, .inl (cI g, 24, .inl (fun j => Int32.ofInt (o.1 33 j)))), (ad 34, .inl (cI g, 24, .inl (fun j => Int32.ofInt (o.1 34 j)))), (ad 35, .inl (cI g, 24, .inl (fun j => Int32.ofInt (o.1 35 j)))), (ad 36, .inl (cI g, 24, .inl (fun j => Int32.ofInt (o.1 36 j)))), (ad 37, .inl (cI g, 1536, .inl (fun j => Int32.ofInt (o.1 37 j)))), (ad 38, .inl (cJ g, 24, .inr (.inl (o.2 38)))), (ad 39, .inl (cI g, 24, .inl (fun j => Int32.ofInt (o.1 39 j)))), (ad 40, .inl (cI g, 24, .inl (fun j => Int32.ofInt (o.1 40 j)))), (ad 41, .inl (cI g, 24, .inl (fun j => Int32.ofInt (o.1 41 j)))), (ad 42, .inl (cI g, 24, .inl (fun j => Int32.ofInt (o.1 42 j)))), (ad 43, .inl (cI g, 24, .inl (fun j => Int32.ofInt (o.1 43 j)))), (ad 44, .inl (cI g, 24, .inl (fun j => Int32.ofInt (o.1 44 j)))), (ad 45, .inl (cJ g, 24, .inr (.inl (o.2 45)))), (ad 46, .inr (2, fC_46 ad o)), (ad 47, .inl (cI g, 40, .inl (fun j => Int32.ofInt (o.1 47 j)))), (ad 48, .inl (cI g, 40, .inl (fun j => Int32.ofInt (o.1 48 j)))), (ad 49, .inl (cI g, 40, .inl (fun j => Int32.ofInt (o.1 49 j)))), (ad 50, .inl (cI g, 60, .inl (fun j => Int32.ofInt (o.1 50 j)))), (ad 51, .inl (cI g, 60, .inl (fun j => Int32.ofInt (o.1 51 j)))), (ad 52, .inl (cI g, 60, .inl (fun j => Int32.ofInt (o.1 52 j)))), (ad 53, .inr (10, fC_53 ad o)), (ad 54, .inl (cI g, 64, .inl (fun j => Int32.ofInt (o.1 54 j)))), (ad 55, .inl (cI g, 64, .inl (fun j => Int32.ofInt (o.1 55 j)))), (ad 56, .inl (cI g, 256, .inl (fun j => Int32.ofInt (o.1 56 j)))), (ad 57, .inl (cI g, 64, .inl (fun j => Int32.ofInt (o.1 57 j)))), (ad 58, .inl (cI g, 64, .inl (fun j => Int32.ofInt (o.1 58 j)))), (ad 59, .inr (6, fC_59 ad o)), (ad 60, .inl (cI g, 1320, .inl (fun j => Int32.ofInt (o.1 60 j)))), (ad 61, .inl (cI g, 33, .inl (fun j => Int32.ofInt (o.1 61 j)))), (ad 62, .inl (cI g, 33, .inl (fun j => Int32.ofInt (o.1 62 j)))), (ad 63, .inl (cI g, 40, .inl (fun j => Int32.ofInt (o.1 63 j)))), (ad 64, .inl (cI g, 33, .inl (fun j => Int32.ofInt (o.1 64 j)))), (ad 65, .inl (cI g, 33, .inl (fun j => Int32.ofInt (o.1 65 j)))), (ad 66, .inr (0, fC_66 ad o)), (ad 67, .inl (cI g, 13, .inl (fun j => Int32.ofInt (o.1 67 j)))), (ad 68, .inl (cI g, 13, .inl (fun j => Int32.ofInt (o.1 68 j)))), (ad 69, .inl (cI g, 13, .inl (fun j => Int32.ofInt (o.1 69 j)))), (ad 70, .inl (cI g, 13, .inl (fun j => Int32.ofInt (o.1 70 j)))), (ad 71, .inr (9, fC_71 ad o)), (ad 72, .inl (cJ g, 4, .inr (.inl (o.2 72)))), (ad 73, .inl (cI g, 128, .inl (fun j => Int32.ofInt (o.1 73 j)))), (ad 74, .inl (cI g, 128, .inl (fun j => Int32.ofInt (o.1 74 j)))), (ad 75, .inl (cI g, 64, .inl (fun j => Int32.ofInt (o.1 75 j)))), (ad 76, .inl (cI g, 256, .inl (fun j => Int32.ofInt (o.1 76 j)))), (ad 77, .inl (cI g, 6, .inl (fun j => Int32.ofInt (o.1 77 j))))]
set_option maxRecDepth 100000 in
theorem wC_0 (g : GG) (ad : Nat → Nat) (o : OO) : (wC g ad o)[0]? = some (ad 0, .inr (11, fC_0 ad o)) := rfl
set_option maxRecDepth 100000 in
theorem wC_p0_13 (g : GG) (ad : Nat → Nat) (o : OO) (x : Int) : (wC g ad o).set 0 (ad 0, .inr (11, (fC_0 ad o).set 13 (iv x))) = wC g ad (st1 o 0 13 x) := rfl
set_option maxRecDepth 100000 in
theorem wC_p0_14 (g : GG) (ad : Nat → Nat) (o : OO) (x : Int) : (wC g ad o).set 0 (ad 0, .inr (11, (fC_0 ad o).set 14 (iv x))) = wC g ad (st1 o 0 14 x) := rfl
set_option maxRecDepth 100000 in
theorem wC_p0_15 (g : GG) (ad : Nat → Nat) (o : OO) (x : Int64) : (wC g ad o).set 0 (ad 0, .inr (11, (fC_0 ad o).set 15 (.long x))) = wC g ad (st2 o 0 15 x) := rfl
set_option maxRecDepth 100000 in
theorem wC_p0_16 (g : GG) (ad : Nat → Nat) (o : OO) (x : Int64) : (wC g ad o).set 0 (ad 0, .inr (11, (fC_0 ad o).set 16 (.long x))) = wC g ad (st2 o 0 16 x) := rfl
set_option maxRecDepth 100000 in
theorem wC_p0_17 (g : GG) (ad : Nat → Nat) (o : OO) (x : Int) : (wC g ad o).set 0 (ad 0, .inr (11, (fC_0 ad o).set 17 (iv x))) = wC g ad (st1 o 0 17 x) := rfl
set_option maxRecDepth 100000 in
theorem wC_1 (g : GG) (ad : Nat → Nat) (o : OO) : (wC g ad o)[1]? = some (ad 1, .inr (8, fC_1 ad o)) := rfl
set_option maxRecDepth 100000 in
theorem wC_2 (g : GG) (ad : Nat → Nat) (o : OO) : (wC g ad o)[2]? = some (ad 2, .inl (cI g, 6, .inl (fun j => Int32.ofInt (o.1 2 j)))) := rfl
set_option maxRecDepth 100000 in
theorem wC_s2 (g : GG) (ad : Nat → Nat) (o : OO) (i : Nat) (x : Int) : (wC g ad o).set 2 (ad 2, .inl (cI g, 6, .inl (fun j => Int32.ofInt (if j = i then x else o.1 2 j)))) = wC g ad (st1 o 2 i x) := rfl
set_option maxRecDepth 100000 in
theorem wC_3 (g : GG) (ad : Nat → Nat) (o : OO) : (wC g ad o)[3]? = some (ad 3, .inl (cI g, 240, .inl (fun j => Int32.ofInt (o.1 3 j)))) := rfl
set_option maxRecDepth 100000 in
theorem wC_s3 (g : GG) (ad : Nat → Nat) (o : OO) (i : Nat) (x : Int) : (wC g ad o).set 3 (ad 3, .inl (cI g, 240, .inl (fun j => Int32.ofInt (if j = i then x else o.1 3 j)))) = wC g ad (st1 o 3 i x) := rfl
set_option maxRecDepth 100000 in
theorem wC_4 (g : GG) (ad : Nat → Nat) (o : OO) : (wC g ad o)[4]? = some (ad 4, .inr (8, fC_4 ad o)) := rfl
set_option maxRecDepth 100000 in
theorem wC_5 (g : GG) (ad : Nat → Nat) (o : OO) : (wC g ad o)[5]? = some (ad 5, .inl (cI g, 6, .inl (fun j => Int32.ofInt (o.1 5 j)))) := rfl
set_option maxRecDepth 100000 in
theorem wC_s5 (g : GG) (ad : Nat → Nat) (o : OO) (i : Nat) (x : Int) : (wC g ad o).set 5 (ad 5, .inl (cI g, 6, .inl (fun j => Int32.ofInt (if j = i then x else o.1 5 j)))) = wC g ad (st1 o 5 i x) := rfl
set_option maxRecDepth 100000 in
theorem wC_6 (g : GG) (ad : Nat → Nat) (o : OO) : (wC g ad o)[6]? = some (ad 6, .inl (cI g, 240, .inl (fun j => Int32.ofInt (o.1 6 j)))) := rfl
set_option maxRecDepth 100000 in
theorem wC_s6 (g : GG) (ad : Nat → Nat) (o : OO) (i : Nat) (x : Int) : (wC g ad o).set 6 (ad 6, .inl (cI g, 240, .inl (fun j => Int32.ofInt (if j = i then x else o.1 6 j)))) = wC g ad (st1 o 6 i x) := rfl
set_option maxRecDepth 100000 in
theorem wC_7 (g : GG) (ad : Nat → Nat) (o : OO) : (wC g ad o)[7]? = some (ad 7, .inr (3, fC_7 ad o)) := rfl
set_option maxRecDepth 100000 in
theorem wC_8 (g : GG) (ad : Nat → Nat) (o : OO) : (wC g ad o)[8]? = some (ad 8, .inl (cI g, 64, .inl (fun j => Int32.ofInt (o.1 8 j)))) := rfl
set_option maxRecDepth 100000 in
theorem wC_s8 (g : GG) (ad : Nat → Nat) (o : OO) (i : Nat) (x : Int) : (wC g ad o).set 8 (ad 8, .inl (cI g, 64, .inl (fun j => Int32.ofInt (if j = i then x else o.1 8 j)))) = wC g ad (st1 o 8 i x) := rfl
set_option maxRecDepth 100000 in
theorem wC_9 (g : GG) (ad : Nat → Nat) (o : OO) : (wC g ad o)[9]? = some (ad 9, .inl (cI g, 64, .inl (fun j => Int32.ofInt (o.1 9 j)))) := rfl
set_option maxRecDepth 100000 in
theorem wC_s9 (g : GG) (ad : Nat → Nat) (o : OO) (i : Nat) (x : Int) : (wC g ad o).set 9 (ad 9, .inl (cI g, 64, .inl (fun j => Int32.ofInt (if j = i then x else o.1 9 j)))) = wC g ad (st1 o 9 i x) := rfl
set_option maxRecDepth 100000 in
theorem wC_10 (g : GG) (ad : Nat → Nat) (o : OO) : (wC g ad o)[10]? = some (ad 10, .inr (1, fC_10 ad o)) := rfl
set_option maxRecDepth 100000 in
theorem wC_p10_12 (g : GG) (ad : Nat → Nat) (o : OO) (x : Int) : (wC g ad o).set 10 (ad 10, .inr (1, (fC_10 ad o).set 12 (iv x))) = wC g ad (st1 o 10 12 x) := rfl
set_option maxRecDepth 100000 in
theorem wC_p10_13 (g : GG) (ad : Nat → Nat) (o : OO) (x : Int) : (wC g ad o).set 10 (ad 10, .inr (1, (fC_10 ad o).set 13 (iv x))) = wC g ad (st1 o 10 13 x) := rfl
set_option maxRecDepth 100000 in
theorem wC_11 (g : GG) (ad : Nat → Nat) (o : OO) : (wC g ad o)[11]? = some (ad 11, .inl (cI g, 32, .inl (fun j => Int32.ofInt (o.1 11 j)))) := rfl
set_option maxRecDepth 100000 in
theorem wC_s11 (g : GG) (ad : Nat → Nat) (o : OO) (i : Nat) (x : Int) : (wC g ad o).set 11 (ad 11, .inl (cI g, 32, .inl (fun j => Int32.ofInt (if j = i then x else o.1 11 j)))) = wC g ad (st1 o 11 i x) := rfl
set_option maxRecDepth 100000 in
theorem wC_12 (g : GG) (ad : Nat → Nat) (o : OO) : (wC g ad o)[12]? = some (ad 12, .inl (cI g, 32, .inl (fun j => Int32.ofInt (o.1 12 j)))) := rfl
set_option maxRecDepth 100000 in
theorem wC_s12 (g : GG) (ad : Nat → Nat) (o : OO) (i : Nat) (x : Int) : (wC g ad o).set 12 (ad 12, .inl (cI g, 32, .inl (fun j => Int32.ofInt (if j = i then x else o.1 12 j)))) = wC g ad (st1 o 12 i x) := rfl
set_option maxRecDepth 100000 in
theorem wC_13 (g : GG) (ad : Nat → Nat) (o : OO) : (wC g ad o)[13]? = some (ad 13, .inl (cI g, 32, .inl (fun j => Int32.ofInt (o.1 13 j)))) := rfl
set_option maxRecDepth 100000 in
theorem wC_s13 (g : GG) (ad : Nat → Nat) (o : OO) (i : Nat) (x : Int) : (wC g ad o).set 13 (ad 13, .inl (cI g, 32, .inl (fun j => Int32.ofInt (if j = i then x else o.1 13 j)))) = wC g ad (st1 o 13 i x) := rfl
set_option maxRecDepth 100000 in
theorem wC_14 (g : GG) (ad : Nat → Nat) (o : OO) : (wC g ad o)[14]? = some (ad 14, .inl (cI g, 32, .inl (fun j => Int32.ofInt (o.1 14 j)))) := rfl
set_option maxRecDepth 100000 in
theorem wC_s14 (g : GG) (ad : Nat → Nat) (o : OO) (i : Nat) (x : Int) : (wC g ad o).set 14 (ad 14, .inl (cI g, 32, .inl (fun j => Int32.ofInt (if j = i then x else o.1 14 j)))) = wC g ad (st1 o 14 i x) := rfl
set_option maxRecDepth 100000 in
theorem wC_15 (g : GG) (ad : Nat → Nat) (o : OO) : (wC g ad o)[15]? = some (ad 15, .inl (cI g, 32, .inl (fun j => Int32.ofInt (o.1 15 j)))) := rfl
set_option maxRecDepth 100000 in
theorem wC_s15 (g : GG) (ad : Nat → Nat) (o : OO) (i : Nat) (x : Int) : (wC g ad o).set 15 (ad 15, .inl (cI g, 32, .inl (fun j => Int32.ofInt (if j = i then x else o.1 15 j)))) = wC g ad (st1 o 15 i x) := rfl
set_option maxRecDepth 100000 in
theorem wC_16 (g : GG) (ad : Nat → Nat) (o : OO) : (wC g ad o)[16]? = some (ad 16, .inl (cI g, 32, .inl (fun j => Int32.ofInt (o.1 16 j)))) := rfl
set_option maxRecDepth 100000 in
theorem wC_s16 (g : GG) (ad : Nat → Nat) (o : OO) (i : Nat) (x : Int) : (wC g ad o).set 16 (ad 16, .inl (cI g, 32, .inl (fun j => Int32.ofInt (if j = i then x else o.1 16 j)))) = wC g ad (st1 o 16 i x) := rfl
set_option maxRecDepth 100000 in
theorem wC_17 (g : GG) (ad : Nat → Nat) (o : OO) : (wC g ad o)[17]? = some (ad 17, .inl (cZ g, 32, .inl (fun j => Int32.ofInt (o.1 17 j)))) := rfl
set_option maxRecDepth 100000 in
theorem wC_s17 (g : GG) (ad : Nat → Nat) (o : OO) (i : Nat) (x : Int) : (wC g ad o).set 17 (ad 17, .inl (cZ g, 32, .inl (fun j => Int32.ofInt (if j = i then x else o.1 17 j)))) = wC g ad (st1 o 17 i x) := rfl
set_option maxRecDepth 100000 in
theorem wC_18 (g : GG) (ad : Nat → Nat) (o : OO) : (wC g ad o)[18]? = some (ad 18, .inl (cI g, 64, .inl (fun j => Int32.ofInt (o.1 18 j)))) := rfl
set_option maxRecDepth 100000 in
theorem wC_s18 (g : GG) (ad : Nat → Nat) (o : OO) (i : Nat) (x : Int) : (wC g ad o).set 18 (ad 18, .inl (cI g, 64, .inl (fun j => Int32.ofInt (if j = i then x else o.1 18 j)))) = wC g ad (st1 o 18 i x) := rfl
set_option maxRecDepth 100000 in
theorem wC_19 (g : GG) (ad : Nat → Nat) (o : OO) : (wC g ad o)[19]? = some (ad 19, .inl (cI g, 100, .inl (fun j => Int32.ofInt (o.1 19 j)))) := rfl
set_option maxRecDepth 100000 in
theorem wC_s19 (g : GG) (ad : Nat → Nat) (o : OO) (i : Nat) (x : Int) : (wC g ad o).set 19 (ad 19, .inl (cI g, 100, .inl (fun j => Int32.ofInt (if j = i then x else o.1 19 j)))) = wC g ad (st1 o 19 i x) := rfl
set_option maxRecDepth 100000 in
theorem wC_20 (g : GG) (ad : Nat → Nat) (o : OO) : (wC g ad o)[20]? = some (ad 20, .inl (cI g, 100, .inl (fun j => Int32.ofInt (o.1 20 j)))) := rfl
set_option maxRecDepth 100000 in
theorem wC_s20 (g : GG) (ad : Nat → Nat) (o : OO) (i : Nat) (x : Int) : (wC g ad o).set 20 (ad 20, .inl (cI g, 100, .inl (fun j => Int32.ofInt (if j = i then x else o.1 20 j)))) = wC g ad (st1 o 20 i x) := rfl
set_option maxRecDepth 100000 in
theorem wC_21 (g : GG) (ad : Nat → Nat) (o : OO) : (wC g ad o)[21]? = some (ad 21, .inl (cI g, 100, .inl (fun j => Int32.ofInt (o.1 21 j)))) := rfl
set_option maxRecDepth 100000 in
theorem wC_s21 (g : GG) (ad : Nat → Nat) (o : OO) (i : Nat) (x : Int) : (wC g ad o).set 21 (ad 21, .inl (cI g, 100, .inl (fun j => Int32.ofInt (if j = i then x else o.1 21 j)))) = wC g ad (st1 o 21 i x) := rfl
set_option maxRecDepth 100000 in
theorem wC_22 (g : GG) (ad : Nat → Nat) (o : OO) : (wC g ad o)[22]? = some (ad 22, .inl (cI g, 32, .inl (fun j => Int32.ofInt (o.1 22 j)))) := rfl
set_option maxRecDepth 100000 in
theorem wC_s22 (g : GG) (ad : Nat → Nat) (o : OO) (i : Nat) (x : Int) : (wC g ad o).set 22 (ad 22, .inl (cI g, 32, .inl (fun j => Int32.ofInt (if j = i then x else o.1 22 j)))) = wC g ad (st1 o 22 i x) := rfl
set_option maxRecDepth 100000 in
theorem wC_23 (g : GG) (ad : Nat → Nat) (o : OO) : (wC g ad o)[23]? = some (ad 23, .inr (5, fC_23 ad o)) := rfl
set_option maxRecDepth 100000 in
theorem wC_p23_4 (g : GG) (ad : Nat → Nat) (o : OO) (x : Int) : (wC g ad o).set 23 (ad 23, .inr (5, (fC_23 ad o).set 4 (iv x))) = wC g ad (st1 o 23 4 x) := rfl
set_option maxRecDepth 100000 in
theorem wC_24 (g : GG) (ad : Nat → Nat) (o : OO) : (wC g ad o)[24]? = some (ad 24, .inl (cI g, 40, .inl (fun j => Int32.ofInt (o.1 24 j)))) := rfl
set_option maxRecDepth 100000 in
theorem wC_s24 (g : GG) (ad : Nat → Nat) (o : OO) (i : Nat) (x : Int) : (wC g ad o).set 24 (ad 24, .inl (cI g, 40, .inl (fun j => Int32.ofInt (if j = i then x else o.1 24 j)))) = wC g ad (st1 o 24 i x) := rfl
set_option maxRecDepth 100000 in
theorem wC_25 (g : GG) (ad : Nat → Nat) (o : OO) : (wC g ad o)[25]? = some (ad 25, .inl (cI g, 40, .inl (fun j => Int32.ofInt (o.1 25 j)))) := rfl
set_option maxRecDepth 100000 in
theorem wC_s25 (g : GG) (ad : Nat → Nat) (o : OO) (i : Nat) (x : Int) : (wC g ad o).set 25 (ad 25, .inl (cI g, 40, .inl (fun j => Int32.ofInt (if j = i then x else o.1 25 j)))) = wC g ad (st1 o 25 i x) := rfl
set_option maxRecDepth 100000 in
theorem wC_26 (g : GG) (ad : Nat → Nat) (o : OO) : (wC g ad o)[26]? = some (ad 26, .inl (cZ g, 40, .inl (fun j => Int32.ofInt (o.1 26 j)))) := rfl
set_option maxRecDepth 100000 in
theorem wC_s26 (g : GG) (ad : Nat → Nat) (o : OO) (i : Nat) (x : Int) : (wC g ad o).set 26 (ad 26, .inl (cZ g, 40, .inl (fun j => Int32.ofInt (if j = i then x else o.1 26 j)))) = wC g ad (st1 o 26 i x) := rfl
set_option maxRecDepth 100000 in
theorem wC_27 (g : GG) (ad : Nat → Nat) (o : OO) : (wC g ad o)[27]? = some (ad 27, .inl (cI g, 40, .inl (fun j => Int32.ofInt (o.1 27 j)))) := rfl
set_option maxRecDepth 100000 in
theorem wC_s27 (g : GG) (ad : Nat → Nat) (o : OO) (i : Nat) (x : Int) : (wC g ad o).set 27 (ad 27, .inl (cI g, 40, .inl (fun j => Int32.ofInt (if j = i then x else o.1 27 j)))) = wC g ad (st1 o 27 i x) := rfl
set_option maxRecDepth 100000 in
theorem wC_28 (g : GG) (ad : Nat → Nat) (o : OO) : (wC g ad o)[28]? = some (ad 28, .inr (7, fC_28 ad o)) := rfl
set_option maxRecDepth 100000 in
theorem wC_p28_3 (g : GG) (ad : Nat → Nat) (o : OO) (x : Int) : (wC g ad o).set 28 (ad 28, .inr (7, (fC_28 ad o).set 3 (iv x))) = wC g ad (st1 o 28 3 x) := rfl
set_option maxRecDepth 100000 in
theorem wC_29 (g : GG) (ad : Nat → Nat) (o : OO) : (wC g ad o)[29]? = some (ad 29, .inl (cI g, 16, .inl (fun j => Int32.ofInt (o.1 29 j)))) := rfl
set_option maxRecDepth 100000 in
theorem wC_s29 (g : GG) (ad : Nat → Nat) (o : OO) (i : Nat) (x : Int) : (wC g ad o).set 29 (ad 29, .inl (cI g, 16, .inl (fun j => Int32.ofInt (if j = i then x else o.1 29 j)))) = wC g ad (st1 o 29 i x) := rfl
set_option maxRecDepth 100000 in
theorem wC_30 (g : GG) (ad : Nat → Nat) (o : OO) : (wC g ad o)[30]? = some (ad 30, .inl (cI g, 16, .inl (fun j => Int32.ofInt (o.1 30 j)))) := rfl
set_option maxRecDepth 100000 in
theorem wC_s30 (g : GG) (ad : Nat → Nat) (o : OO) (i : Nat) (x : Int) : (wC g ad o).set 30 (ad 30, .inl (cI g, 16, .inl (fun j => Int32.ofInt (if j = i then x else o.1 30 j)))) = wC g ad (st1 o 30 i x) := rfl
set_option maxRecDepth 100000 in
theorem wC_31 (g : GG) (ad : Nat → Nat) (o : OO) : (wC g ad o)[31]? = some (ad 31, .inl (cI g, 128, .inl (fun j => Int32.ofInt (o.1 31 j)))) := rfl
set_option maxRecDepth 100000 in
theorem wC_s31 (g : GG) (ad : Nat → Nat) (o : OO) (i : Nat) (x : Int) : (wC g ad o).set 31 (ad 31, .inl (cI g, 128, .inl (fun j => Int32.ofInt (if j = i then x else o.1 31 j)))) = wC g ad (st1 o 31 i x) := rfl
set_option maxRecDepth 100000 in
theorem wC_32 (g : GG) (ad : Nat → Nat) (o : OO) : (wC g ad o)[32]? = some (ad 32, .inr (4, fC_32 ad o)) := rfl
set_option maxRecDepth 100000 in
theorem wC_p32_13 (g : GG) (ad : Nat → Nat) (o : OO) (x : Int) : (wC g ad o).set 32 (ad 32, .inr (4, (fC_32 ad o).set 13 (iv x))) = wC g ad (st1 o 32 13 x) := rfl
set_option maxRecDepth 100000 in
theorem wC_33 (g : GG) (ad : Nat → Nat) (o : OO) : (wC g ad o)[33]? = some (ad 33, .inl (cI g, 24, .inl (fun j => Int32.ofInt (o.1 33 j)))) := rfl
set_option maxRecDepth 100000 in
theorem wC_s33 (g : GG) (ad : Nat → Nat) (o : OO) (i : Nat) (x : Int) : (wC g ad o).set 33 (ad 33, .inl (cI g, 24, .inl (fun j => Int32.ofInt (if j = i then x else o.1 33 j)))) = wC g ad (st1 o 33 i x) := rfl
set_option maxRecDepth 100000 in
theorem wC_34 (g : GG) (ad : Nat → Nat) (o : OO) : (wC g ad o)[34]? = some (ad 34, .inl (cI g, 24, .inl (fun j => Int32.ofInt (o.1 34 j)))) := rfl
set_option maxRecDepth 100000 in
theorem wC_s34 (g : GG) (ad : Nat → Nat) (o : OO) (i : Nat) (x : Int) : (wC g ad o).set 34 (ad 34, .inl (cI g, 24, .inl (fun j => Int32.ofInt (if j = i then x else o.1 34 j)))) = wC g ad (st1 o 34 i x) := rfl
set_option maxRecDepth 100000 in
theorem wC_35 (g : GG) (ad : Nat → Nat) (o : OO) : (wC g ad o)[35]? = some (ad 35, .inl (cI g, 24, .inl (fun j => Int32.ofInt (o.1 35 j)))) := rfl
set_option maxRecDepth 100000 in
theorem wC_s35 (g : GG) (ad : Nat → Nat) (o : OO) (i : Nat) (x : Int) : (wC g ad o).set 35 (ad 35, .inl (cI g, 24, .inl (fun j => Int32.ofInt (if j = i then x else o.1 35 j)))) = wC g ad (st1 o 35 i x) := rfl
set_option maxRecDepth 100000 in
theorem wC_36 (g : GG) (ad : Nat → Nat) (o : OO) : (wC g ad o)[36]? = some (ad 36, .inl (cI g, 24, .inl (fun j => Int32.ofInt (o.1 36 j)))) := rfl
set_option maxRecDepth 100000 in
theorem wC_s36 (g : GG) (ad : Nat → Nat) (o : OO) (i : Nat) (x : Int) : (wC g ad o).set 36 (ad 36, .inl (cI g, 24, .inl (fun j => Int32.ofInt (if j = i then x else o.1 36 j)))) = wC g ad (st1 o 36 i x) := rfl
set_option maxRecDepth 100000 in
theorem wC_37 (g : GG) (ad : Nat → Nat) (o : OO) : (wC g ad o)[37]? = some (ad 37, .inl (cI g, 1536, .inl (fun j => Int32.ofInt (o.1 37 j)))) := rfl
set_option maxRecDepth 100000 in
theorem wC_s37 (g : GG) (ad : Nat → Nat) (o : OO) (i : Nat) (x : Int) : (wC g ad o).set 37 (ad 37, .inl (cI g, 1536, .inl (fun j => Int32.ofInt (if j = i then x else o.1 37 j)))) = wC g ad (st1 o 37 i x) := rfl
set_option maxRecDepth 100000 in
theorem wC_38 (g : GG) (ad : Nat → Nat) (o : OO) : (wC g ad o)[38]? = some (ad 38, .inl (cJ g, 24, .inr (.inl (o.2 38)))) := rfl
set_option maxRecDepth 100000 in
theorem wC_s38 (g : GG) (ad : Nat → Nat) (o : OO) (i : Nat) (x : Int64) : (wC g ad o).set 38 (ad 38, .inl (cJ g, 24, .inr (.inl (vp_updL (o.2 38) i x)))) = wC g ad (st2 o 38 i x) := rfl
set_option maxRecDepth 100000 in
theorem wC_39 (g : GG) (ad : Nat → Nat) (o : OO) : (wC g ad o)[39]? = some (ad 39, .inl (cI g, 24, .inl (fun j => Int32.ofInt (o.1 39 j)))) := rfl
set_option maxRecDepth 100000 in
theorem wC_s39 (g : GG) (ad : Nat → Nat) (o : OO) (i : Nat) (x : Int) : (wC g ad o).set 39 (ad 39, .inl (cI g, 24, .inl (fun j => Int32.ofInt (if j = i then x else o.1 39 j)))) = wC g ad (st1 o 39 i x) := rfl
set_option maxRecDepth 100000 in
theorem wC_40 (g : GG) (ad : Nat → Nat) (o : OO) : (wC g ad o)[40]? = some (ad 40, .inl (cI g, 24, .inl (fun j => Int32.ofInt (o.1 40 j)))) := rfl
set_option maxRecDepth 100000 in
theorem wC_s40 (g : GG) (ad : Nat → Nat) (o : OO) (i : Nat) (x : Int) : (wC g ad o).set 40 (ad 40, .inl (cI g, 24, .inl (fun j => Int32.ofInt (if j = i then x else o.1 40 j)))) = wC g ad (st1 o 40 i x) := rfl
set_option maxRecDepth 100000 in
theorem wC_41 (g : GG) (ad : Nat → Nat) (o : OO) : (wC g ad o)[41]? = some (ad 41, .inl (cI g, 24, .inl (fun j => Int32.ofInt (o.1 41 j)))) := rfl
set_option maxRecDepth 100000 in
theorem wC_s41 (g : GG) (ad : Nat → Nat) (o : OO) (i : Nat) (x : Int) : (wC g ad o).set 41 (ad 41, .inl (cI g, 24, .inl (fun j => Int32.ofInt (if j = i then x else o.1 41 j)))) = wC g ad (st1 o 41 i x) := rfl
set_option maxRecDepth 100000 in
theorem wC_42 (g : GG) (ad : Nat → Nat) (o : OO) : (wC g ad o)[42]? = some (ad 42, .inl (cI g, 24, .inl (fun j => Int32.ofInt (o.1 42 j)))) := rfl
set_option maxRecDepth 100000 in
theorem wC_s42 (g : GG) (ad : Nat → Nat) (o : OO) (i : Nat) (x : Int) : (wC g ad o).set 42 (ad 42, .inl (cI g, 24, .inl (fun j => Int32.ofInt (if j = i then x else o.1 42 j)))) = wC g ad (st1 o 42 i x) := rfl
set_option maxRecDepth 100000 in
theorem wC_43 (g : GG) (ad : Nat → Nat) (o : OO) : (wC g ad o)[43]? = some (ad 43, .inl (cI g, 24, .inl (fun j => Int32.ofInt (o.1 43 j)))) := rfl
set_option maxRecDepth 100000 in
theorem wC_s43 (g : GG) (ad : Nat → Nat) (o : OO) (i : Nat) (x : Int) : (wC g ad o).set 43 (ad 43, .inl (cI g, 24, .inl (fun j => Int32.ofInt (if j = i then x else o.1 43 j)))) = wC g ad (st1 o 43 i x) := rfl
set_option maxRecDepth 100000 in
theorem wC_44 (g : GG) (ad : Nat → Nat) (o : OO) : (wC g ad o)[44]? = some (ad 44, .inl (cI g, 24, .inl (fun j => Int32.ofInt (o.1 44 j)))) := rfl
set_option maxRecDepth 100000 in
theorem wC_s44 (g : GG) (ad : Nat → Nat) (o : OO) (i : Nat) (x : Int) : (wC g ad o).set 44 (ad 44, .inl (cI g, 24, .inl (fun j => Int32.ofInt (if j = i then x else o.1 44 j)))) = wC g ad (st1 o 44 i x) := rfl
set_option maxRecDepth 100000 in
theorem wC_45 (g : GG) (ad : Nat → Nat) (o : OO) : (wC g ad o)[45]? = some (ad 45, .inl (cJ g, 24, .inr (.inl (o.2 45)))) := rfl
set_option maxRecDepth 100000 in
theorem wC_s45 (g : GG) (ad : Nat → Nat) (o : OO) (i : Nat) (x : Int64) : (wC g ad o).set 45 (ad 45, .inl (cJ g, 24, .inr (.inl (vp_updL (o.2 45) i x)))) = wC g ad (st2 o 45 i x) := rfl
set_option maxRecDepth 100000 in
theorem wC_46 (g : GG) (ad : Nat → Nat) (o : OO) : (wC g ad o)[46]? = some (ad 46, .inr (2, fC_46 ad o)) := rfl
set_option maxRecDepth 100000 in
theorem wC_p46_6 (g : GG) (ad : Nat → Nat) (o : OO) (x : Int) : (wC g ad o).set 46 (ad 46, .inr (2, (fC_46 ad o).set 6 (iv x))) = wC g ad (st1 o 46 6 x) := rfl
set_option maxRecDepth 100000 in
theorem wC_p46_7 (g : GG) (ad : Nat → Nat) (o : OO) (x : Int) : (wC g ad o).set 46 (ad 46, .inr (2, (fC_46 ad o).set 7 (iv x))) = wC g ad (st1 o 46 7 x) := rfl
set_option maxRecDepth 100000 in
theorem wC_47 (g : GG) (ad : Nat → Nat) (o : OO) : (wC g ad o)[47]? = some (ad 47, .inl (cI g, 40, .inl (fun j => Int32.ofInt (o.1 47 j)))) := rfl
set_option maxRecDepth 100000 in
theorem wC_s47 (g : GG) (ad : Nat → Nat) (o : OO) (i : Nat) (x : Int) : (wC g ad o).set 47 (ad 47, .inl (cI g, 40, .inl (fun j => Int32.ofInt (if j = i then x else o.1 47 j)))) = wC g ad (st1 o 47 i x) := rfl
set_option maxRecDepth 100000 in
theorem wC_48 (g : GG) (ad : Nat → Nat) (o : OO) : (wC g ad o)[48]? = some (ad 48, .inl (cI g, 40, .inl (fun j => Int32.ofInt (o.1 48 j)))) := rfl
set_option maxRecDepth 100000 in
theorem wC_s48 (g : GG) (ad : Nat → Nat) (o : OO) (i : Nat) (x : Int) : (wC g ad o).set 48 (ad 48, .inl (cI g, 40, .inl (fun j => Int32.ofInt (if j = i then x else o.1 48 j)))) = wC g ad (st1 o 48 i x) := rfl
set_option maxRecDepth 100000 in
theorem wC_49 (g : GG) (ad : Nat → Nat) (o : OO) : (wC g ad o)[49]? = some (ad 49, .inl (cI g, 40, .inl (fun j => Int32.ofInt (o.1 49 j)))) := rfl
set_option maxRecDepth 100000 in
theorem wC_s49 (g : GG) (ad : Nat → Nat) (o : OO) (i : Nat) (x : Int) : (wC g ad o).set 49 (ad 49, .inl (cI g, 40, .inl (fun j => Int32.ofInt (if j = i then x else o.1 49 j)))) = wC g ad (st1 o 49 i x) := rfl
set_option maxRecDepth 100000 in
theorem wC_50 (g : GG) (ad : Nat → Nat) (o : OO) : (wC g ad o)[50]? = some (ad 50, .inl (cI g, 60, .inl (fun j => Int32.ofInt (o.1 50 j)))) := rfl
set_option maxRecDepth 100000 in
theorem wC_s50 (g : GG) (ad : Nat → Nat) (o : OO) (i : Nat) (x : Int) : (wC g ad o).set 50 (ad 50, .inl (cI g, 60, .inl (fun j => Int32.ofInt (if j = i then x else o.1 50 j)))) = wC g ad (st1 o 50 i x) := rfl
set_option maxRecDepth 100000 in
theorem wC_51 (g : GG) (ad : Nat → Nat) (o : OO) : (wC g ad o)[51]? = some (ad 51, .inl (cI g, 60, .inl (fun j => Int32.ofInt (o.1 51 j)))) := rfl
set_option maxRecDepth 100000 in
theorem wC_s51 (g : GG) (ad : Nat → Nat) (o : OO) (i : Nat) (x : Int) : (wC g ad o).set 51 (ad 51, .inl (cI g, 60, .inl (fun j => Int32.ofInt (if j = i then x else o.1 51 j)))) = wC g ad (st1 o 51 i x) := rfl
set_option maxRecDepth 100000 in
theorem wC_52 (g : GG) (ad : Nat → Nat) (o : OO) : (wC g ad o)[52]? = some (ad 52, .inl (cI g, 60, .inl (fun j => Int32.ofInt (o.1 52 j)))) := rfl
set_option maxRecDepth 100000 in
theorem wC_s52 (g : GG) (ad : Nat → Nat) (o : OO) (i : Nat) (x : Int) : (wC g ad o).set 52 (ad 52, .inl (cI g, 60, .inl (fun j => Int32.ofInt (if j = i then x else o.1 52 j)))) = wC g ad (st1 o 52 i x) := rfl
set_option maxRecDepth 100000 in
theorem wC_53 (g : GG) (ad : Nat → Nat) (o : OO) : (wC g ad o)[53]? = some (ad 53, .inr (10, fC_53 ad o)) := rfl
set_option maxRecDepth 100000 in
theorem wC_p53_2 (g : GG) (ad : Nat → Nat) (o : OO) (x : Int) : (wC g ad o).set 53 (ad 53, .inr (10, (fC_53 ad o).set 2 (iv x))) = wC g ad (st1 o 53 2 x) := rfl
set_option maxRecDepth 100000 in
theorem wC_p53_3 (g : GG) (ad : Nat → Nat) (o : OO) (x : Int) : (wC g ad o).set 53 (ad 53, .inr (10, (fC_53 ad o).set 3 (iv x))) = wC g ad (st1 o 53 3 x) := rfl
set_option maxRecDepth 100000 in
theorem wC_p53_7 (g : GG) (ad : Nat → Nat) (o : OO) (x : Int64) : (wC g ad o).set 53 (ad 53, .inr (10, (fC_53 ad o).set 7 (.long x))) = wC g ad (st2 o 53 7 x) := rfl
set_option maxRecDepth 100000 in
theorem wC_p53_8 (g : GG) (ad : Nat → Nat) (o : OO) (x : Int) : (wC g ad o).set 53 (ad 53, .inr (10, (fC_53 ad o).set 8 (iv x))) = wC g ad (st1 o 53 8 x) := rfl
set_option maxRecDepth 100000 in
theorem wC_p53_9 (g : GG) (ad : Nat → Nat) (o : OO) (x : Int) : (wC g ad o).set 53 (ad 53, .inr (10, (fC_53 ad o).set 9 (iv x))) = wC g ad (st1 o 53 9 x) := rfl
set_option maxRecDepth 100000 in
theorem wC_p53_10 (g : GG) (ad : Nat → Nat) (o : OO) (x : Int) : (wC g ad o).set 53 (ad 53, .inr (10, (fC_53 ad o).set 10 (iv x))) = wC g ad (st1 o 53 10 x) := rfl
set_option maxRecDepth 100000 in
theorem wC_54 (g : GG) (ad : Nat → Nat) (o : OO) : (wC g ad o)[54]? = some (ad 54, .inl (cI g, 64, .inl (fun j => Int32.ofInt (o.1 54 j)))) := rfl
set_option maxRecDepth 100000 in
theorem wC_s54 (g : GG) (ad : Nat → Nat) (o : OO) (i : Nat) (x : Int) : (wC g ad o).set 54 (ad 54, .inl (cI g, 64, .inl (fun j => Int32.ofInt (if j = i then x else o.1 54 j)))) = wC g ad (st1 o 54 i x) := rfl
set_option maxRecDepth 100000 in
theorem wC_55 (g : GG) (ad : Nat → Nat) (o : OO) : (wC g ad o)[55]? = some (ad 55, .inl (cI g, 64, .inl (fun j => Int32.ofInt (o.1 55 j)))) := rfl
set_option maxRecDepth 100000 in
theorem wC_s55 (g : GG) (ad : Nat → Nat) (o : OO) (i : Nat) (x : Int) : (wC g ad o).set 55 (ad 55, .inl (cI g, 64, .inl (fun j => Int32.ofInt (if j = i then x else o.1 55 j)))) = wC g ad (st1 o 55 i x) := rfl
set_option maxRecDepth 100000 in
theorem wC_56 (g : GG) (ad : Nat → Nat) (o : OO) : (wC g ad o)[56]? = some (ad 56, .inl (cI g, 256, .inl (fun j => Int32.ofInt (o.1 56 j)))) := rfl
set_option maxRecDepth 100000 in
theorem wC_s56 (g : GG) (ad : Nat → Nat) (o : OO) (i : Nat) (x : Int) : (wC g ad o).set 56 (ad 56, .inl (cI g, 256, .inl (fun j => Int32.ofInt (if j = i then x else o.1 56 j)))) = wC g ad (st1 o 56 i x) := rfl
set_option maxRecDepth 100000 in
theorem wC_57 (g : GG) (ad : Nat → Nat) (o : OO) : (wC g ad o)[57]? = some (ad 57, .inl (cI g, 64, .inl (fun j => Int32.ofInt (o.1 57 j)))) := rfl
set_option maxRecDepth 100000 in
theorem wC_s57 (g : GG) (ad : Nat → Nat) (o : OO) (i : Nat) (x : Int) : (wC g ad o).set 57 (ad 57, .inl (cI g, 64, .inl (fun j => Int32.ofInt (if j = i then x else o.1 57 j)))) = wC g ad (st1 o 57 i x) := rfl
set_option maxRecDepth 100000 in
theorem wC_58 (g : GG) (ad : Nat → Nat) (o : OO) : (wC g ad o)[58]? = some (ad 58, .inl (cI g, 64, .inl (fun j => Int32.ofInt (o.1 58 j)))) := rfl
set_option maxRecDepth 100000 in
theorem wC_s58 (g : GG) (ad : Nat → Nat) (o : OO) (i : Nat) (x : Int) : (wC g ad o).set 58 (ad 58, .inl (cI g, 64, .inl (fun j => Int32.ofInt (if j = i then x else o.1 58 j)))) = wC g ad (st1 o 58 i x) := rfl
set_option maxRecDepth 100000 in
theorem wC_59 (g : GG) (ad : Nat → Nat) (o : OO) : (wC g ad o)[59]? = some (ad 59, .inr (6, fC_59 ad o)) := rfl
set_option maxRecDepth 100000 in
theorem wC_p59_0 (g : GG) (ad : Nat → Nat) (o : OO) (x : Int) : (wC g ad o).set 59 (ad 59, .inr (6, (fC_59 ad o).set 0 (iv x))) = wC g ad (st1 o 59 0 x) := rfl
set_option maxRecDepth 100000 in
theorem wC_p59_1 (g : GG) (ad : Nat → Nat) (o : OO) (x : Int) : (wC g ad o).set 59 (ad 59, .inr (6, (fC_59 ad o).set 1 (iv x))) = wC g ad (st1 o 59 1 x) := rfl
set_option maxRecDepth 100000 in
theorem wC_p59_8 (g : GG) (ad : Nat → Nat) (o : OO) (x : Int) : (wC g ad o).set 59 (ad 59, .inr (6, (fC_59 ad o).set 8 (iv x))) = wC g ad (st1 o 59 8 x) := rfl
set_option maxRecDepth 100000 in
theorem wC_60 (g : GG) (ad : Nat → Nat) (o : OO) : (wC g ad o)[60]? = some (ad 60, .inl (cI g, 1320, .inl (fun j => Int32.ofInt (o.1 60 j)))) := rfl
set_option maxRecDepth 100000 in
theorem wC_s60 (g : GG) (ad : Nat → Nat) (o : OO) (i : Nat) (x : Int) : (wC g ad o).set 60 (ad 60, .inl (cI g, 1320, .inl (fun j => Int32.ofInt (if j = i then x else o.1 60 j)))) = wC g ad (st1 o 60 i x) := rfl
set_option maxRecDepth 100000 in
theorem wC_61 (g : GG) (ad : Nat → Nat) (o : OO) : (wC g ad o)[61]? = some (ad 61, .inl (cI g, 33, .inl (fun j => Int32.ofInt (o.1 61 j)))) := rfl
set_option maxRecDepth 100000 in
theorem wC_s61 (g : GG) (ad : Nat → Nat) (o : OO) (i : Nat) (x : Int) : (wC g ad o).set 61 (ad 61, .inl (cI g, 33, .inl (fun j => Int32.ofInt (if j = i then x else o.1 61 j)))) = wC g ad (st1 o 61 i x) := rfl
set_option maxRecDepth 100000 in
theorem wC_62 (g : GG) (ad : Nat → Nat) (o : OO) : (wC g ad o)[62]? = some (ad 62, .inl (cI g, 33, .inl (fun j => Int32.ofInt (o.1 62 j)))) := rfl
set_option maxRecDepth 100000 in
theorem wC_s62 (g : GG) (ad : Nat → Nat) (o : OO) (i : Nat) (x : Int) : (wC g ad o).set 62 (ad 62, .inl (cI g, 33, .inl (fun j => Int32.ofInt (if j = i then x else o.1 62 j)))) = wC g ad (st1 o 62 i x) := rfl
set_option maxRecDepth 100000 in
theorem wC_63 (g : GG) (ad : Nat → Nat) (o : OO) : (wC g ad o)[63]? = some (ad 63, .inl (cI g, 40, .inl (fun j => Int32.ofInt (o.1 63 j)))) := rfl
set_option maxRecDepth 100000 in
theorem wC_s63 (g : GG) (ad : Nat → Nat) (o : OO) (i : Nat) (x : Int) : (wC g ad o).set 63 (ad 63, .inl (cI g, 40, .inl (fun j => Int32.ofInt (if j = i then x else o.1 63 j)))) = wC g ad (st1 o 63 i x) := rfl
set_option maxRecDepth 100000 in
theorem wC_64 (g : GG) (ad : Nat → Nat) (o : OO) : (wC g ad o)[64]? = some (ad 64, .inl (cI g, 33, .inl (fun j => Int32.ofInt (o.1 64 j)))) := rfl
set_option maxRecDepth 100000 in
theorem wC_s64 (g : GG) (ad : Nat → Nat) (o : OO) (i : Nat) (x : Int) : (wC g ad o).set 64 (ad 64, .inl (cI g, 33, .inl (fun j => Int32.ofInt (if j = i then x else o.1 64 j)))) = wC g ad (st1 o 64 i x) := rfl
set_option maxRecDepth 100000 in
theorem wC_65 (g : GG) (ad : Nat → Nat) (o : OO) : (wC g ad o)[65]? = some (ad 65, .inl (cI g, 33, .inl (fun j => Int32.ofInt (o.1 65 j)))) := rfl
set_option maxRecDepth 100000 in
theorem wC_s65 (g : GG) (ad : Nat → Nat) (o : OO) (i : Nat) (x : Int) : (wC g ad o).set 65 (ad 65, .inl (cI g, 33, .inl (fun j => Int32.ofInt (if j = i then x else o.1 65 j)))) = wC g ad (st1 o 65 i x) := rfl
set_option maxRecDepth 100000 in
theorem wC_66 (g : GG) (ad : Nat → Nat) (o : OO) : (wC g ad o)[66]? = some (ad 66, .inr (0, fC_66 ad o)) := rfl
set_option maxRecDepth 100000 in
theorem wC_p66_0 (g : GG) (ad : Nat → Nat) (o : OO) (x : Int) : (wC g ad o).set 66 (ad 66, .inr (0, (fC_66 ad o).set 0 (iv x))) = wC g ad (st1 o 66 0 x) := rfl
set_option maxRecDepth 100000 in
theorem wC_p66_1 (g : GG) (ad : Nat → Nat) (o : OO) (x : Int) : (wC g ad o).set 66 (ad 66, .inr (0, (fC_66 ad o).set 1 (iv x))) = wC g ad (st1 o 66 1 x) := rfl
set_option maxRecDepth 100000 in
theorem wC_67 (g : GG) (ad : Nat → Nat) (o : OO) : (wC g ad o)[67]? = some (ad 67, .inl (cI g, 13, .inl (fun j => Int32.ofInt (o.1 67 j)))) := rfl
set_option maxRecDepth 100000 in
theorem wC_s67 (g : GG) (ad : Nat → Nat) (o : OO) (i : Nat) (x : Int) : (wC g ad o).set 67 (ad 67, .inl (cI g, 13, .inl (fun j => Int32.ofInt (if j = i then x else o.1 67 j)))) = wC g ad (st1 o 67 i x) := rfl
set_option maxRecDepth 100000 in
theorem wC_68 (g : GG) (ad : Nat → Nat) (o : OO) : (wC g ad o)[68]? = some (ad 68, .inl (cI g, 13, .inl (fun j => Int32.ofInt (o.1 68 j)))) := rfl
set_option maxRecDepth 100000 in
theorem wC_s68 (g : GG) (ad : Nat → Nat) (o : OO) (i : Nat) (x : Int) : (wC g ad o).set 68 (ad 68, .inl (cI g, 13, .inl (fun j => Int32.ofInt (if j = i then x else o.1 68 j)))) = wC g ad (st1 o 68 i x) := rfl
set_option maxRecDepth 100000 in
theorem wC_69 (g : GG) (ad : Nat → Nat) (o : OO) : (wC g ad o)[69]? = some (ad 69, .inl (cI g, 13, .inl (fun j => Int32.ofInt (o.1 69 j)))) := rfl
set_option maxRecDepth 100000 in
theorem wC_s69 (g : GG) (ad : Nat → Nat) (o : OO) (i : Nat) (x : Int) : (wC g ad o).set 69 (ad 69, .inl (cI g, 13, .inl (fun j => Int32.ofInt (if j = i then x else o.1 69 j)))) = wC g ad (st1 o 69 i x) := rfl
set_option maxRecDepth 100000 in
theorem wC_70 (g : GG) (ad : Nat → Nat) (o : OO) : (wC g ad o)[70]? = some (ad 70, .inl (cI g, 13, .inl (fun j => Int32.ofInt (o.1 70 j)))) := rfl
set_option maxRecDepth 100000 in
theorem wC_s70 (g : GG) (ad : Nat → Nat) (o : OO) (i : Nat) (x : Int) : (wC g ad o).set 70 (ad 70, .inl (cI g, 13, .inl (fun j => Int32.ofInt (if j = i then x else o.1 70 j)))) = wC g ad (st1 o 70 i x) := rfl
set_option maxRecDepth 100000 in
theorem wC_71 (g : GG) (ad : Nat → Nat) (o : OO) : (wC g ad o)[71]? = some (ad 71, .inr (9, fC_71 ad o)) := rfl
set_option maxRecDepth 100000 in
theorem wC_p71_5 (g : GG) (ad : Nat → Nat) (o : OO) (x : Int) : (wC g ad o).set 71 (ad 71, .inr (9, (fC_71 ad o).set 5 (iv x))) = wC g ad (st1 o 71 5 x) := rfl
set_option maxRecDepth 100000 in
theorem wC_72 (g : GG) (ad : Nat → Nat) (o : OO) : (wC g ad o)[72]? = some (ad 72, .inl (cJ g, 4, .inr (.inl (o.2 72)))) := rfl
set_option maxRecDepth 100000 in
theorem wC_s72 (g : GG) (ad : Nat → Nat) (o : OO) (i : Nat) (x : Int64) : (wC g ad o).set 72 (ad 72, .inl (cJ g, 4, .inr (.inl (vp_updL (o.2 72) i x)))) = wC g ad (st2 o 72 i x) := rfl
set_option maxRecDepth 100000 in
theorem wC_73 (g : GG) (ad : Nat → Nat) (o : OO) : (wC g ad o)[73]? = some (ad 73, .inl (cI g, 128, .inl (fun j => Int32.ofInt (o.1 73 j)))) := rfl
set_option maxRecDepth 100000 in
theorem wC_s73 (g : GG) (ad : Nat → Nat) (o : OO) (i : Nat) (x : Int) : (wC g ad o).set 73 (ad 73, .inl (cI g, 128, .inl (fun j => Int32.ofInt (if j = i then x else o.1 73 j)))) = wC g ad (st1 o 73 i x) := rfl
set_option maxRecDepth 100000 in
theorem wC_74 (g : GG) (ad : Nat → Nat) (o : OO) : (wC g ad o)[74]? = some (ad 74, .inl (cI g, 128, .inl (fun j => Int32.ofInt (o.1 74 j)))) := rfl
set_option maxRecDepth 100000 in
theorem wC_s74 (g : GG) (ad : Nat → Nat) (o : OO) (i : Nat) (x : Int) : (wC g ad o).set 74 (ad 74, .inl (cI g, 128, .inl (fun j => Int32.ofInt (if j = i then x else o.1 74 j)))) = wC g ad (st1 o 74 i x) := rfl
set_option maxRecDepth 100000 in
theorem wC_75 (g : GG) (ad : Nat → Nat) (o : OO) : (wC g ad o)[75]? = some (ad 75, .inl (cI g, 64, .inl (fun j => Int32.ofInt (o.1 75 j)))) := rfl
set_option maxRecDepth 100000 in
theorem wC_s75 (g : GG) (ad : Nat → Nat) (o : OO) (i : Nat) (x : Int) : (wC g ad o).set 75 (ad 75, .inl (cI g, 64, .inl (fun j => Int32.ofInt (if j = i then x else o.1 75 j)))) = wC g ad (st1 o 75 i x) := rfl
set_option maxRecDepth 100000 in
theorem wC_76 (g : GG) (ad : Nat → Nat) (o : OO) : (wC g ad o)[76]? = some (ad 76, .inl (cI g, 256, .inl (fun j => Int32.ofInt (o.1 76 j)))) := rfl
set_option maxRecDepth 100000 in
theorem wC_s76 (g : GG) (ad : Nat → Nat) (o : OO) (i : Nat) (x : Int) : (wC g ad o).set 76 (ad 76, .inl (cI g, 256, .inl (fun j => Int32.ofInt (if j = i then x else o.1 76 j)))) = wC g ad (st1 o 76 i x) := rfl
set_option maxRecDepth 100000 in
theorem wC_77 (g : GG) (ad : Nat → Nat) (o : OO) : (wC g ad o)[77]? = some (ad 77, .inl (cI g, 6, .inl (fun j => Int32.ofInt (o.1 77 j)))) := rfl
set_option maxRecDepth 100000 in
theorem wC_s77 (g : GG) (ad : Nat → Nat) (o : OO) (i : Nat) (x : Int) : (wC g ad o).set 77 (ad 77, .inl (cI g, 6, .inl (fun j => Int32.ofInt (if j = i then x else o.1 77 j)))) = wC g ad (st1 o 77 i x) := rfl
