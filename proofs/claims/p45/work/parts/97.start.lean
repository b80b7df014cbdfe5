def oC0 : OO := (fun a j => if a = 1 then (if j = 0 then (6) else 0) else if a = 2 then (-1) else if a = 4 then (if j = 0 then (4) else if j = 1 then (32) else 0) else if a = 5 then (-1) else if a = 18 then (-9) else 0, fun _ _ => 0)
def oM0 : OO := (fun a j => if a = 0 then (if j = 66 then (-9) else 0) else if a = 2 then (-9) else if a = 5 then (-9) else 0, fun _ _ => 0)
def adL (l : List Nat) (k : Nat) : Nat := l.getD k 0
set_option maxRecDepth 100000 in
set_option maxHeartbeats 4000000 in
theorem BoxC0 : BoxC oC0 := by
  intro k j
  match k with
  | 0 =>
    match j with
    | 0 => exact True.intro
    | 1 => exact True.intro
    | 2 => exact True.intro
    | 3 => exact True.intro
    | 4 => exact True.intro
    | 5 => exact True.intro
    | 6 => exact True.intro
    | 7 => exact True.intro
    | 8 => exact True.intro
    | 9 => exact True.intro
    | 10 => exact True.intro
    | 11 => exact True.intro
    | 12 => exact True.intro
    | 13 => exact (show 0 ≤ (0 : Int) ∧ (0 : Int) ≤ 999 by decide)
    | 14 => exact True.intro
    | 15 => exact True.intro
    | 16 => exact True.intro
    | 17 => exact (show 0 ≤ (0 : Int) ∧ (0 : Int) ≤ 5 by decide)
    | j + 18 => exact True.intro
  | 1 =>
    match j with
    | 0 => exact (show 6 ≤ (6 : Int) ∧ (6 : Int) ≤ 6 by decide)
    | 1 => exact (show 0 ≤ (0 : Int) ∧ (0 : Int) ≤ 0 by decide)
    | j + 2 => exact True.intro
  | 2 => exact (show -1 ≤ (-1 : Int) ∧ (-1 : Int) ≤ 40 by decide)
  | 3 => exact (show -2147483648 ≤ (0 : Int) ∧ (0 : Int) ≤ 2147483647 by decide)
  | 4 =>
    match j with
    | 0 => exact (show 4 ≤ (4 : Int) ∧ (4 : Int) ≤ 4 by decide)
    | 1 => exact (show 32 ≤ (32 : Int) ∧ (32 : Int) ≤ 32 by decide)
    | j + 2 => exact True.intro
  | 5 => exact (show -1 ≤ (-1 : Int) ∧ (-1 : Int) ≤ 40 by decide)
  | 6 => exact (show -2147483648 ≤ (0 : Int) ∧ (0 : Int) ≤ 2147483647 by decide)
  | 7 => exact True.intro
  | 8 => exact (show 0 ≤ (0 : Int) ∧ (0 : Int) ≤ 4 by decide)
  | 9 => exact (show 0 ≤ (0 : Int) ∧ (0 : Int) ≤ 99 by decide)
  | 10 =>
    match j with
    | 0 => exact True.intro
    | 1 => exact True.intro
    | 2 => exact True.intro
    | 3 => exact True.intro
    | 4 => exact True.intro
    | 5 => exact True.intro
    | 6 => exact True.intro
    | 7 => exact True.intro
    | 8 => exact True.intro
    | 9 => exact True.intro
    | 10 => exact True.intro
    | 11 => exact True.intro
    | 12 => exact (show 0 ≤ (0 : Int) ∧ (0 : Int) ≤ 32 by decide)
    | 13 => exact (show 0 ≤ (0 : Int) ∧ (0 : Int) ≤ 100 by decide)
    | j + 14 => exact True.intro
  | 11 => exact (show 0 ≤ (0 : Int) ∧ (0 : Int) ≤ 63 by decide)
  | 12 => exact (show 0 ≤ (0 : Int) ∧ (0 : Int) ≤ 2 by decide)
  | 13 => exact (show 0 ≤ (0 : Int) ∧ (0 : Int) ≤ 20 by decide)
  | 14 => exact (show 0 ≤ (0 : Int) ∧ (0 : Int) ≤ 40 by decide)
  | 15 => exact (show -9 ≤ (0 : Int) ∧ (0 : Int) ≤ 39 by decide)
  | 16 => exact (show 0 ≤ (0 : Int) ∧ (0 : Int) ≤ 100000 by decide)
  | 17 => exact (show 0 ≤ (0 : Int) ∧ (0 : Int) ≤ 1 by decide)
  | 18 => exact (show (-9 : Int) = -9 ∨ (0 ≤ (-9 : Int) ∧ (-9 : Int) ≤ 31) by decide)
  | 19 => exact (show 0 ≤ (0 : Int) ∧ (0 : Int) ≤ 31 by decide)
  | 20 => exact (show 0 ≤ (0 : Int) ∧ (0 : Int) ≤ 999 by decide)
  | 21 => exact (show 0 ≤ (0 : Int) ∧ (0 : Int) ≤ 100000 by decide)
  | 22 => exact (show -2147483648 ≤ (0 : Int) ∧ (0 : Int) ≤ 2147483647 by decide)
  | 23 =>
    match j with
    | 0 => exact True.intro
    | 1 => exact True.intro
    | 2 => exact True.intro
    | 3 => exact True.intro
    | 4 => exact (show 0 ≤ (0 : Int) ∧ (0 : Int) ≤ 40 by decide)
    | j + 5 => exact True.intro
  | 24 => exact (show (0 : Int) = -9 ∨ (0 ≤ (0 : Int) ∧ (0 : Int) ≤ 31) by decide)
  | 25 => exact (show (0 : Int) = -9 ∨ (0 ≤ (0 : Int) ∧ (0 : Int) ≤ 63) by decide)
  | 26 => exact (show 0 ≤ (0 : Int) ∧ (0 : Int) ≤ 1 by decide)
  | 27 => exact (show 0 ≤ (0 : Int) ∧ (0 : Int) ≤ 9 by decide)
  | 28 =>
    match j with
    | 0 => exact True.intro
    | 1 => exact True.intro
    | 2 => exact True.intro
    | 3 => exact (show 0 ≤ (0 : Int) ∧ (0 : Int) ≤ 16 by decide)
    | j + 4 => exact True.intro
  | 29 => exact (show 0 ≤ (0 : Int) ∧ (0 : Int) ≤ 999 by decide)
  | 30 => exact (show 0 ≤ (0 : Int) ∧ (0 : Int) ≤ 999 by decide)
  | 31 => exact (show -1 ≤ (0 : Int) ∧ (0 : Int) ≤ 9999 by decide)
  | 32 =>
    match j with
    | 0 => exact True.intro
    | 1 => exact True.intro
    | 2 => exact True.intro
    | 3 => exact True.intro
    | 4 => exact True.intro
    | 5 => exact True.intro
    | 6 => exact True.intro
    | 7 => exact True.intro
    | 8 => exact True.intro
    | 9 => exact True.intro
    | 10 => exact True.intro
    | 11 => exact True.intro
    | 12 => exact True.intro
    | 13 => exact (show 0 ≤ (0 : Int) ∧ (0 : Int) ≤ 24 by decide)
    | j + 14 => exact True.intro
  | 33 => exact (show 0 ≤ (0 : Int) ∧ (0 : Int) ≤ 6 by decide)
  | 34 => exact (show 0 ≤ (0 : Int) ∧ (0 : Int) ≤ 999 by decide)
  | 35 => exact (show -9 ≤ (0 : Int) ∧ (0 : Int) ≤ 23 by decide)
  | 36 => exact (show 0 ≤ (0 : Int) ∧ (0 : Int) ≤ 64 by decide)
  | 37 => exact (show 0 ≤ (0 : Int) ∧ (0 : Int) ≤ 63 by decide)
  | 38 => exact True.intro
  | 39 => exact (show 0 ≤ (0 : Int) ∧ (0 : Int) ≤ 1000000 by decide)
  | 40 => exact (show -9 ≤ (0 : Int) ∧ (0 : Int) ≤ 999 by decide)
  | 41 => exact (show 0 ≤ (0 : Int) ∧ (0 : Int) ≤ 10000000 by decide)
  | 42 => exact (show 0 ≤ (0 : Int) ∧ (0 : Int) ≤ 63 by decide)
  | 43 => exact (show 0 ≤ (0 : Int) ∧ (0 : Int) ≤ 999 by decide)
  | 44 => exact (show 0 ≤ (0 : Int) ∧ (0 : Int) ≤ 23 by decide)
  | 45 => exact True.intro
  | 46 =>
    match j with
    | 0 => exact True.intro
    | 1 => exact True.intro
    | 2 => exact True.intro
    | 3 => exact True.intro
    | 4 => exact True.intro
    | 5 => exact True.intro
    | 6 => exact (show 0 ≤ (0 : Int) ∧ (0 : Int) ≤ 40 by decide)
    | 7 => exact (show 0 ≤ (0 : Int) ∧ (0 : Int) ≤ 60 by decide)
    | j + 8 => exact True.intro
  | 47 => exact (show 0 ≤ (0 : Int) ∧ (0 : Int) ≤ 31 by decide)
  | 48 => exact (show 0 ≤ (0 : Int) ∧ (0 : Int) ≤ 39 by decide)
  | 49 => exact (show 0 ≤ (0 : Int) ∧ (0 : Int) ≤ 999 by decide)
  | 50 => exact (show 0 ≤ (0 : Int) ∧ (0 : Int) ≤ 39 by decide)
  | 51 => exact (show 0 ≤ (0 : Int) ∧ (0 : Int) ≤ 23 by decide)
  | 52 => exact (show 0 ≤ (0 : Int) ∧ (0 : Int) ≤ 999 by decide)
  | 53 =>
    match j with
    | 0 => exact True.intro
    | 1 => exact True.intro
    | 2 => exact (show 0 ≤ (0 : Int) ∧ (0 : Int) ≤ 64 by decide)
    | 3 => exact (show 0 ≤ (0 : Int) ∧ (0 : Int) ≤ 1000000 by decide)
    | 4 => exact True.intro
    | 5 => exact True.intro
    | 6 => exact True.intro
    | 7 => exact True.intro
    | 8 => exact (show 0 ≤ (0 : Int) ∧ (0 : Int) ≤ 63 by decide)
    | 9 => exact (show -2147483648 ≤ (0 : Int) ∧ (0 : Int) ≤ 2147483647 by decide)
    | 10 => exact (show 0 ≤ (0 : Int) ∧ (0 : Int) ≤ 63 by decide)
    | j + 11 => exact True.intro
  | 54 => exact (show 0 ≤ (0 : Int) ∧ (0 : Int) ≤ 2000 by decide)
  | 55 => exact (show 0 ≤ (0 : Int) ∧ (0 : Int) ≤ 63 by decide)
  | 56 => exact (show 0 ≤ (0 : Int) ∧ (0 : Int) ≤ 1000000000 by decide)
  | 57 => exact (show 0 ≤ (0 : Int) ∧ (0 : Int) ≤ 1000000000 by decide)
  | 58 => exact (show 0 ≤ (0 : Int) ∧ (0 : Int) ≤ 63 by decide)
  | 59 =>
    match j with
    | 0 => exact (show -2147483648 ≤ (0 : Int) ∧ (0 : Int) ≤ 2147483647 by decide)
    | 1 => exact (show -2147483648 ≤ (0 : Int) ∧ (0 : Int) ≤ 2147483647 by decide)
    | 2 => exact True.intro
    | 3 => exact True.intro
    | 4 => exact True.intro
    | 5 => exact True.intro
    | 6 => exact True.intro
    | 7 => exact True.intro
    | 8 => exact (show 0 ≤ (0 : Int) ∧ (0 : Int) ≤ 32 by decide)
    | j + 9 => exact True.intro
  | 60 => exact (show 0 ≤ (0 : Int) ∧ (0 : Int) ≤ 14 by decide)
  | 61 => exact (show -2147483648 ≤ (0 : Int) ∧ (0 : Int) ≤ 2147483647 by decide)
  | 62 => exact (show 0 ≤ (0 : Int) ∧ (0 : Int) ≤ 63 by decide)
  | 63 => exact (show 0 ≤ (0 : Int) ∧ (0 : Int) ≤ 32 by decide)
  | 64 => exact (show -2147483648 ≤ (0 : Int) ∧ (0 : Int) ≤ 2147483647 by decide)
  | 65 => exact (show 0 ≤ (0 : Int) ∧ (0 : Int) ≤ 39 by decide)
  | 66 =>
    match j with
    | 0 => exact (show 0 ≤ (0 : Int) ∧ (0 : Int) ≤ 13 by decide)
    | 1 => exact (show 0 ≤ (0 : Int) ∧ (0 : Int) ≤ 100000 by decide)
    | j + 2 => exact True.intro
  | 67 => exact (show 0 ≤ (0 : Int) ∧ (0 : Int) ≤ 100000 by decide)
  | 68 => exact (show -2147483648 ≤ (0 : Int) ∧ (0 : Int) ≤ 2147483647 by decide)
  | 69 => exact (show (0 : Int) = -9 ∨ (0 ≤ (0 : Int) ∧ (0 : Int) ≤ 100000) by decide)
  | 70 => exact (show 0 ≤ (0 : Int) ∧ (0 : Int) ≤ 12 by decide)
  | 71 =>
    match j with
    | 0 => exact True.intro
    | 1 => exact True.intro
    | 2 => exact True.intro
    | 3 => exact True.intro
    | 4 => exact True.intro
    | 5 => exact (show 0 ≤ (0 : Int) ∧ (0 : Int) ≤ 128 by decide)
    | j + 6 => exact True.intro
  | 72 => exact True.intro
  | 73 => exact (show (0 : Int) = -9 ∨ (0 ≤ (0 : Int) ∧ (0 : Int) ≤ 127) by decide)
  | 74 => exact (show 0 ≤ (0 : Int) ∧ (0 : Int) ≤ 127 by decide)
  | 75 => exact (show -2147483648 ≤ (0 : Int) ∧ (0 : Int) ≤ 2147483647 by decide)
  | 76 => exact (show -2147483648 ≤ (0 : Int) ∧ (0 : Int) ≤ 2147483647 by decide)
  | 77 => exact True.intro
  | k + 78 => exact True.intro
set_option maxRecDepth 100000 in
set_option maxHeartbeats 4000000 in
theorem BoxM0 : BoxM oM0 := by
  intro k j
  match k with
  | 0 =>
    match j with
    | 0 => exact (show 0 ≤ (0 : Int) ∧ (0 : Int) ≤ 5 by decide)
    | 1 => exact True.intro
    | 2 => exact True.intro
    | 3 => exact True.intro
    | 4 => exact (show 0 ≤ (0 : Int) ∧ (0 : Int) ≤ 999 by decide)
    | 5 => exact True.intro
    | 6 => exact True.intro
    | 7 => exact True.intro
    | 8 => exact True.intro
    | 9 => exact True.intro
    | 10 => exact (show 0 ≤ (0 : Int) ∧ (0 : Int) ≤ 16 by decide)
    | 11 => exact True.intro
    | 12 => exact True.intro
    | 13 => exact True.intro
    | 14 => exact True.intro
    | 15 => exact True.intro
    | 16 => exact True.intro
    | 17 => exact (show 0 ≤ (0 : Int) ∧ (0 : Int) ≤ 32 by decide)
    | 18 => exact True.intro
    | 19 => exact True.intro
    | 20 => exact True.intro
    | 21 => exact True.intro
    | 22 => exact True.intro
    | 23 => exact (show 0 ≤ (0 : Int) ∧ (0 : Int) ≤ 100 by decide)
    | 24 => exact True.intro
    | 25 => exact True.intro
    | 26 => exact True.intro
    | 27 => exact (show 0 ≤ (0 : Int) ∧ (0 : Int) ≤ 40 by decide)
    | 28 => exact True.intro
    | 29 => exact True.intro
    | 30 => exact True.intro
    | 31 => exact True.intro
    | 32 => exact (show 0 ≤ (0 : Int) ∧ (0 : Int) ≤ 24 by decide)
    | 33 => exact True.intro
    | 34 => exact True.intro
    | 35 => exact True.intro
    | 36 => exact True.intro
    | 37 => exact True.intro
    | 38 => exact True.intro
    | 39 => exact True.intro
    | 40 => exact True.intro
    | 41 => exact True.intro
    | 42 => exact True.intro
    | 43 => exact True.intro
    | 44 => exact True.intro
    | 45 => exact True.intro
    | 46 => exact True.intro
    | 47 => exact True.intro
    | 48 => exact (show 0 ≤ (0 : Int) ∧ (0 : Int) ≤ 40 by decide)
    | 49 => exact True.intro
    | 50 => exact True.intro
    | 51 => exact True.intro
    | 52 => exact (show 0 ≤ (0 : Int) ∧ (0 : Int) ≤ 60 by decide)
    | 53 => exact True.intro
    | 54 => exact True.intro
    | 55 => exact True.intro
    | 56 => exact True.intro
    | 57 => exact True.intro
    | 58 => exact True.intro
    | 59 => exact True.intro
    | 60 => exact True.intro
    | 61 => exact True.intro
    | 62 => exact True.intro
    | 63 => exact True.intro
    | 64 => exact True.intro
    | 65 => exact (show 0 ≤ (0 : Int) ∧ (0 : Int) ≤ 13 by decide)
    | 66 => exact (show -9 ≤ (-9 : Int) ∧ (-9 : Int) ≤ 100000 by decide)
    | j + 67 => exact True.intro
  | 1 => exact True.intro
  | 2 => exact (show -9 ≤ (-9 : Int) ∧ (-9 : Int) ≤ 40 by decide)
  | 3 => exact (show -2147483648 ≤ (0 : Int) ∧ (0 : Int) ≤ 2147483647 by decide)
  | 4 => exact (show -2147483648 ≤ (0 : Int) ∧ (0 : Int) ≤ 2147483647 by decide)
  | 5 => exact (show -9 ≤ (-9 : Int) ∧ (-9 : Int) ≤ 40 by decide)
  | 6 => exact (show -128 ≤ (0 : Int) ∧ (0 : Int) ≤ 127 by decide)
  | 7 => exact (show 0 ≤ (0 : Int) ∧ (0 : Int) ≤ 999 by decide)
  | 8 => exact (show 0 ≤ (0 : Int) ∧ (0 : Int) ≤ 999 by decide)
  | 9 => exact (show -9 ≤ (0 : Int) ∧ (0 : Int) ≤ 9999 by decide)
  | 10 => exact (show -9 ≤ (0 : Int) ∧ (0 : Int) ≤ 9999 by decide)
  | 11 => exact (show 0 ≤ (0 : Int) ∧ (0 : Int) ≤ 4 by decide)
  | 12 => exact (show 0 ≤ (0 : Int) ∧ (0 : Int) ≤ 99 by decide)
  | 13 => exact (show 0 ≤ (0 : Int) ∧ (0 : Int) ≤ 63 by decide)
  | 14 => exact (show 0 ≤ (0 : Int) ∧ (0 : Int) ≤ 2 by decide)
  | 15 => exact (show 0 ≤ (0 : Int) ∧ (0 : Int) ≤ 20 by decide)
  | 16 => exact (show 0 ≤ (0 : Int) ∧ (0 : Int) ≤ 1 by decide)
  | 17 => exact (show -9 ≤ (0 : Int) ∧ (0 : Int) ≤ 39 by decide)
  | 18 => exact (show 0 ≤ (0 : Int) ∧ (0 : Int) ≤ 31 by decide)
  | 19 => exact (show 0 ≤ (0 : Int) ∧ (0 : Int) ≤ 999 by decide)
  | 20 => exact (show 0 ≤ (0 : Int) ∧ (0 : Int) ≤ 100000 by decide)
  | 21 => exact (show -9 ≤ (0 : Int) ∧ (0 : Int) ≤ 31 by decide)
  | 22 => exact (show -9 ≤ (0 : Int) ∧ (0 : Int) ≤ 63 by decide)
  | 23 => exact (show 0 ≤ (0 : Int) ∧ (0 : Int) ≤ 1 by decide)
  | 24 => exact (show 0 ≤ (0 : Int) ∧ (0 : Int) ≤ 9 by decide)
  | 25 => exact (show 0 ≤ (0 : Int) ∧ (0 : Int) ≤ 6 by decide)
  | 26 => exact (show 0 ≤ (0 : Int) ∧ (0 : Int) ≤ 999 by decide)
  | 27 => exact (show -9 ≤ (0 : Int) ∧ (0 : Int) ≤ 23 by decide)
  | 28 => exact (show 0 ≤ (0 : Int) ∧ (0 : Int) ≤ 1000000 by decide)
  | 29 => exact (show -9 ≤ (0 : Int) ∧ (0 : Int) ≤ 999 by decide)
  | 30 => exact (show 0 ≤ (0 : Int) ∧ (0 : Int) ≤ 64 by decide)
  | 31 => exact (show 0 ≤ (0 : Int) ∧ (0 : Int) ≤ 63 by decide)
  | 32 => exact (show 0 ≤ (0 : Int) ∧ (0 : Int) ≤ 10000000 by decide)
  | 33 => exact (show 0 ≤ (0 : Int) ∧ (0 : Int) ≤ 39 by decide)
  | 34 => exact True.intro
  | 35 => exact (show 0 ≤ (0 : Int) ∧ (0 : Int) ≤ 63 by decide)
  | 36 => exact (show 0 ≤ (0 : Int) ∧ (0 : Int) ≤ 999 by decide)
  | 37 => exact (show 0 ≤ (0 : Int) ∧ (0 : Int) ≤ 999 by decide)
  | 38 => exact (show 0 ≤ (0 : Int) ∧ (0 : Int) ≤ 100000000 by decide)
  | 39 => exact (show 0 ≤ (0 : Int) ∧ (0 : Int) ≤ 2000 by decide)
  | 40 => exact (show 0 ≤ (0 : Int) ∧ (0 : Int) ≤ 31 by decide)
  | 41 => exact (show 0 ≤ (0 : Int) ∧ (0 : Int) ≤ 39 by decide)
  | 42 => exact (show 0 ≤ (0 : Int) ∧ (0 : Int) ≤ 999 by decide)
  | 43 => exact (show 0 ≤ (0 : Int) ∧ (0 : Int) ≤ 39 by decide)
  | 44 => exact (show 0 ≤ (0 : Int) ∧ (0 : Int) ≤ 23 by decide)
  | 45 => exact (show 0 ≤ (0 : Int) ∧ (0 : Int) ≤ 999 by decide)
  | 46 => exact (show -9 ≤ (0 : Int) ∧ (0 : Int) ≤ 31 by decide)
  | 47 => exact (show 0 ≤ (0 : Int) ∧ (0 : Int) ≤ 1 by decide)
  | 48 => exact (show -40 ≤ (0 : Int) ∧ (0 : Int) ≤ 20 by decide)
  | 49 => exact (show -2147483648 ≤ (0 : Int) ∧ (0 : Int) ≤ 2147483647 by decide)
  | 50 => exact (show 0 ≤ (0 : Int) ∧ (0 : Int) ≤ 39 by decide)
  | 51 => exact (show -9 ≤ (0 : Int) ∧ (0 : Int) ≤ 31 by decide)
  | 52 => exact (show 0 ≤ (0 : Int) ∧ (0 : Int) ≤ 100000000 by decide)
  | 53 => exact (show -2147483648 ≤ (0 : Int) ∧ (0 : Int) ≤ 2147483647 by decide)
  | 54 => exact (show -9 ≤ (0 : Int) ∧ (0 : Int) ≤ 100000 by decide)
  | 55 => exact (show -2147483648 ≤ (0 : Int) ∧ (0 : Int) ≤ 2147483647 by decide)
  | 56 => exact (show -9 ≤ (0 : Int) ∧ (0 : Int) ≤ 100000 by decide)
  | 57 => exact (show -2147483648 ≤ (0 : Int) ∧ (0 : Int) ≤ 2147483647 by decide)
  | 58 => exact (show 0 ≤ (0 : Int) ∧ (0 : Int) ≤ 1 by decide)
  | 59 => exact (show -2147483648 ≤ (0 : Int) ∧ (0 : Int) ≤ 2147483647 by decide)
  | 60 => exact (show -2147483648 ≤ (0 : Int) ∧ (0 : Int) ≤ 2147483647 by decide)
  | 61 => exact (show -9 ≤ (0 : Int) ∧ (0 : Int) ≤ 127 by decide)
  | 62 => exact (show 0 ≤ (0 : Int) ∧ (0 : Int) ≤ 127 by decide)
  | k + 63 => exact True.intro
theorem start_INVC : INVC oC0 (740000 * ((0 : Nat) : Int)) := by
  refine ⟨BoxC0, ?_, ?_, ?_⟩
  · intro b h0 h1
    have h1 : b < (0 : Int) := h1
    omega
  · intro b h0 h1
    have h1 : b < (0 : Int) := h1
    omega
  · intro j _
    show (-(740000 * ((0 : Nat) : Int)) ≤ (0 : Int) ∧ (0 : Int) ≤ 14) ∧ -(740000 * ((0 : Nat) : Int)) ≤ (0 : Int) ∧ (0 : Int) ≤ 640
    decide
theorem start_INVM : INVM oM0 := by
  refine ⟨BoxM0, ?_⟩
  intro b h0 h1
  have h1 : b < (0 : Int) := h1
  omega
theorem start_REL : REL oC0 oM0 := by
  refine ⟨⟨fun r _ => ?_, fun r k _ hk => ?_⟩, ⟨fun r _ => ?_, fun r k _ hk => ?_⟩, rfl, ⟨rfl, fun k hk => ?_, fun k w hk _ => ?_⟩, ⟨rfl, fun j hj => ?_⟩⟩
  · show (-1 : Int) = SZ (-9)
    decide
  · have hk : (k : Int) < -9 := hk
    omega
  · show (-1 : Int) = SZ (-9)
    decide
  · have hk : (k : Int) < -9 := hk
    omega
  · have hk : (k : Int) < 0 := hk
    omega
  · have hk : (k : Int) < 0 := hk
    omega
  · have hj : (j : Int) < 0 := hj
    omega
